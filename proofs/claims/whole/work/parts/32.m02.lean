def S_Li_init (v0 : Option Nat) (v1 : Option Nat) (v2 : Int32) (v3 : Int32) (μ : Mem) : Option (Unit × Mem) := b1 (rc μ v0 5) (fun _ => b1 (pV μ v0 5 0 (vR v1)) (fun m6 => b1 (pV m6 v0 5 1 (vI v2)) (fun m11 => b1 (pV m11 v0 5 2 (vI v3)) (fun m16 => some ((), m16)))))
set_option maxHeartbeats 4000000 in
set_option maxRecDepth 100000 in
theorem C_Li_init (l : Launch) (G : GG) (v0 : Option Nat) (v1 : Option Nat) (v2 : Int32) (v3 : Int32) (μ μ' : Mem) (r : Unit) (h : S_Li_init v0 v1 v2 v3 μ = some (r, μ')) : CT l G y_Li_init prog_6_method_1_code 4 none 1 0 0 60 μ [vR v0, vR v1, vI v2, vI v3] none μ' := by
  refine wm_met (lv := [(0, vR v0), (1, vR v1), (2, vI v2), (3, vI v3)]) (by decide +kernel) (Nat.le_of_ble_eq_true rfl) rfl (fun X E hQ hR hI => ?_)
  have h : (b1 (rc μ v0 5) (fun _ => b1 (pV μ v0 5 0 (vR v1)) (fun m6 => b1 (pV m6 v0 5 1 (vI v2)) (fun m11 => b1 (pV m11 v0 5 2 (vI v3)) (fun m16 => some ((), m16)))))) = some (r, μ') := h
  refine wm_aload_n E dLi_init_0 rfl (j := 0) rfl ?_
  obtain ⟨u1, hr1, h⟩ := b1S h
  refine wm_obj E hr1 oi_Li_1 (by rw [hR]; decide) (by rw [hR]; decide) rfl dLi_init_1 ?_
  refine wm_aload_n E dLi_init_4 rfl (j := 0) rfl ?_
  refine wm_aload_n E dLi_init_5 rfl (j := 1) rfl ?_
  refine wm_pR E fp_Li_7 (Or.inl ⟨_, rfl⟩) (fun _ => hI) h dLi_init_6 (fun m6 h => ?_)
  refine wm_aload_n E dLi_init_9 rfl (j := 0) rfl ?_
  refine wm_iload_n E dLi_init_10 rfl (j := 2) rfl ?_
  refine wm_pI E fp_Li_13 (fun _ => hI) h dLi_init_11 (fun m11 h => ?_)
  refine wm_aload_n E dLi_init_14 rfl (j := 0) rfl ?_
  refine wm_iload_n E dLi_init_15 rfl (j := 3) rfl ?_
  refine wm_pI E fp_Li_17 (fun _ => hI) h dLi_init_16 (fun m16 h => ?_)
  exact wm_vret E hQ rfl (rtM h) (by decide) (by decide) dLi_init_19
def B_P_parent_33   (μ : Mem) : Option ((Nat ⊕ Unit) × Mem) := some (.inl 0, μ)
set_option maxHeartbeats 4000000 in
set_option maxRecDepth 100000 in
theorem w_P_parent_33 {X : CX} (E : EV X prog_1_method_8_code 7 "PlaceFinder" none) {μ0 μ' : Mem} {r : (Nat ⊕ Unit)} (hQ : RQ2 X 2 36 μ0 (cvV r) μ') (hR : xR X = { frames := 38, cells := 2, slots := 36, locals := 1124 }) (hI : X.2.2.2.2.2.2.2.2.2.2.2.1.name = "parent")   (μ : Mem) (h : B_P_parent_33   μ = some (r, μ')) : WM X 7 33 [] [] 0 0 μ := by
  have h : (some (.inl 0, μ)) = some (r, μ') := h
  obtain ⟨μs, hX⟩ := rqXV hQ h
  exact wm_throw (ln := 2) (names := exU) (cls := "java/lang/IllegalArgumentException") E tf_P_91_166 hX ⟨(by rw [hR]; decide), by decide⟩ ⟨(by rw [hR]; decide), by decide⟩ (by rw [hR]; decide) (by rw [hR]; decide) (Nat.le_of_ble_eq_true rfl) dP_parent_33 dP_parent_36 (Or.inl ⟨rfl, dP_parent_37⟩) dP_parent_39 dP_parent_42
def B_P_parent_89   (μ : Mem) : Option ((Nat ⊕ Unit) × Mem) := some (.inl 1, μ)
set_option maxHeartbeats 4000000 in
set_option maxRecDepth 100000 in
theorem w_P_parent_89 {X : CX} (E : EV X prog_1_method_8_code 7 "PlaceFinder" none) {μ0 μ' : Mem} {r : (Nat ⊕ Unit)} (hQ : RQ2 X 2 36 μ0 (cvV r) μ') (hR : xR X = { frames := 38, cells := 2, slots := 36, locals := 1124 }) (hI : X.2.2.2.2.2.2.2.2.2.2.2.1.name = "parent")   (μ : Mem) (h : B_P_parent_89   μ = some (r, μ')) : WM X 7 89 [] [] 0 0 μ := by
  have h : (some (.inl 1, μ)) = some (r, μ') := h
  obtain ⟨μs, hX⟩ := rqXV hQ h
  exact wm_throw (ln := 2) (names := exU) (cls := "java/lang/IllegalStateException") E tf_P_102_183 hX ⟨(by rw [hR]; decide), by decide⟩ ⟨(by rw [hR]; decide), by decide⟩ (by rw [hR]; decide) (by rw [hR]; decide) (Nat.le_of_ble_eq_true rfl) dP_parent_89 dP_parent_92 (Or.inl ⟨rfl, dP_parent_93⟩) dP_parent_95 dP_parent_98
def S_P_parent (v0 : Option Nat) (v1 : Int32) (v2 : Int32) (v3 : Int32) (v4 : Int32) (μ : Mem) : Option ((Nat ⊕ Unit) × Mem) := b1 (rc μ v0 11) (fun _ => b1 (S_P_placeOf v0 v1 μ) (fun x2 => b1 (rc μ v0 11) (fun _ => b1 (S_P_placeOf v0 v2 μ) (fun x9 => if x2 = none then B_P_parent_33 μ else if x9 = none then B_P_parent_33 μ else b1 (S_P_areSpan v3 v4 μ) (fun x27 => if x27 = 0 then B_P_parent_33 μ else b1 (rc μ x2 7) (fun _ => b1 (S_Pl_isLinkedWithin x2 v3 v4 μ) (fun x48 => if x48 = 0 then b1 (S_P_comesTo 32 x9 v1 v3 v4 0 μ) (fun x71 => if x71 = 0 then b1 (gR μ x2 7 6) (fun x79 => b1 (rc μ x79 0) (fun _ => b1 (S_Al_size x79 μ) (fun x82 => if x82 < 4 then b1 (gR μ x2 7 6) (fun x101 => b2 (nO μ 5 [.null, .int 0, .int 0]) (fun x104 m104 => b1 (rc m104 x104 5) (fun _ => b2 (S_Li_init x104 x9 v3 v4 m104) (fun x113 m113 => b1 (rc m113 x101 0) (fun _ => b2 (S_Al_add x101 x104 m113) (fun x116 m116 => some (.inr (), m116))))))) else B_P_parent_89 μ))) else B_P_parent_89 μ) else some (.inl 2, μ))))))))
set_option maxHeartbeats 4000000 in
set_option maxRecDepth 100000 in
theorem w_P_parent_e {X : CX} (E : EV X prog_1_method_8_code 7 "PlaceFinder" none) {μ0 μ' : Mem} {r : (Nat ⊕ Unit)} (hQ : RQ2 X 2 36 μ0 (cvV r) μ') (hR : xR X = { frames := 38, cells := 2, slots := 36, locals := 1124 }) (hI : X.2.2.2.2.2.2.2.2.2.2.2.1.name = "parent") (v0 : Option Nat) (v1 : Int32) (v2 : Int32) (v3 : Int32) (v4 : Int32) (μ : Mem) (h : S_P_parent v0 v1 v2 v3 v4 μ = some (r, μ')) : WM X 7 0 [(0, vR v0), (1, vI v1), (2, vI v2), (3, vI v3), (4, vI v4)] [] 0 0 μ := by
  have h : (b1 (rc μ v0 11) (fun _ => b1 (S_P_placeOf v0 v1 μ) (fun x2 => b1 (rc μ v0 11) (fun _ => b1 (S_P_placeOf v0 v2 μ) (fun x9 => if x2 = none then B_P_parent_33 μ else if x9 = none then B_P_parent_33 μ else b1 (S_P_areSpan v3 v4 μ) (fun x27 => if x27 = 0 then B_P_parent_33 μ else b1 (rc μ x2 7) (fun _ => b1 (S_Pl_isLinkedWithin x2 v3 v4 μ) (fun x48 => if x48 = 0 then b1 (S_P_comesTo 32 x9 v1 v3 v4 0 μ) (fun x71 => if x71 = 0 then b1 (gR μ x2 7 6) (fun x79 => b1 (rc μ x79 0) (fun _ => b1 (S_Al_size x79 μ) (fun x82 => if x82 < 4 then b1 (gR μ x2 7 6) (fun x101 => b2 (nO μ 5 [.null, .int 0, .int 0]) (fun x104 m104 => b1 (rc m104 x104 5) (fun _ => b2 (S_Li_init x104 x9 v3 v4 m104) (fun x113 m113 => b1 (rc m113 x101 0) (fun _ => b2 (S_Al_add x101 x104 m113) (fun x116 m116 => some (.inr (), m116))))))) else B_P_parent_89 μ))) else B_P_parent_89 μ) else some (.inl 2, μ))))))))) = some (r, μ') := h
  refine wm_aload_n E dP_parent_0 rfl (j := 0) rfl ?_
  refine wm_iload_n E dP_parent_1 rfl (j := 1) rfl ?_
  obtain ⟨u2, hr2, h⟩ := b1S h
  obtain ⟨x2, hc2, h⟩ := b1S h
  refine wm_cV (ci := 11) (As := [vI v1]) (st := []) E lk_P_124 rfl im_P_placeOf sl_P_placeOf hr2 (C_P_placeOf (xl X) X.1 v0 v1 μ _ hc2) rfl rfl (by rw [hR]; decide) (by rw [hR]; decide) (Nat.le_of_ble_eq_true rfl) dP_parent_2 ?_
  refine wm_astore (lv' := [(5, vR x2), (0, vR v0), (1, vI v1), (2, vI v2), (3, vI v3), (4, vI v4)]) E dP_parent_5 (by decide) rfl ?_
  refine wm_aload_n E dP_parent_7 rfl (j := 1) rfl ?_
  refine wm_iload_n E dP_parent_8 rfl (j := 3) rfl ?_
  obtain ⟨u9, hr9, h⟩ := b1S h
  obtain ⟨x9, hc9, h⟩ := b1S h
  refine wm_cV (ci := 11) (As := [vI v2]) (st := []) E lk_P_124 rfl im_P_placeOf sl_P_placeOf hr9 (C_P_placeOf (xl X) X.1 v0 v2 μ _ hc9) rfl rfl (by rw [hR]; decide) (by rw [hR]; decide) (Nat.le_of_ble_eq_true rfl) dP_parent_9 ?_
  refine wm_astore (lv' := [(6, vR x9), (5, vR x2), (0, vR v0), (1, vI v1), (2, vI v2), (3, vI v3), (4, vI v4)]) E dP_parent_12 (by decide) rfl ?_
  refine wm_aload E dP_parent_14 (j := 1) rfl ?_
  refine wm_ifnull (tgt := 33) E dP_parent_16 (by decide) (fun c16 => ?_) (fun c16 => ?_)
  · have h := (if_pos c16).symm.trans h
    refine wm_pick (lv' := []) [] rfl ?_
    exact w_P_parent_33 E hQ hR hI μ h
  · have h := (if_neg c16).symm.trans h
    refine wm_aload E dP_parent_19 (j := 0) rfl ?_
    refine wm_ifnull (tgt := 33) E dP_parent_21 (by decide) (fun c21 => ?_) (fun c21 => ?_)
    · have h := (if_pos c21).symm.trans h
      refine wm_pick (lv' := []) [] rfl ?_
      exact w_P_parent_33 E hQ hR hI μ h
    · have h := (if_neg c21).symm.trans h
      refine wm_iload_n E dP_parent_24 rfl (j := 5) rfl ?_
      refine wm_iload E dP_parent_25 (j := 6) rfl ?_
      obtain ⟨x27, hc27, h⟩ := b1S h
      refine wm_cS (As := [vI v3, vI v4]) (st := []) E lk_P_151 sc_P_areSpan (C_P_areSpan (xl X) X.1 v3 v4 μ _ hc27) rfl rfl (by rw [hR]; decide) (by rw [hR]; decide) (Nat.le_of_ble_eq_true rfl) dP_parent_27 ?_
      refine wm_if_ne (tgt := 43) E dP_parent_30 (by decide) (fun c30 => ?_) (fun c30 => ?_)
      · have h := (if_neg c30).symm.trans h
        refine wm_aload E dP_parent_43 (j := 1) rfl ?_
        refine wm_iload_n E dP_parent_45 rfl (j := 5) rfl ?_
        refine wm_iload E dP_parent_46 (j := 6) rfl ?_
        obtain ⟨u48, hr48, h⟩ := b1S h
        obtain ⟨x48, hc48, h⟩ := b1S h
        refine wm_cV (ci := 7) (As := [vI v3, vI v4]) (st := []) E lk_P_168 rfl im_Pl_isLinkedWithin sl_Pl_isLinkedWithin hr48 (C_Pl_isLinkedWithin (xl X) X.1 x2 v3 v4 μ _ hc48) rfl rfl (by rw [hR]; decide) (by rw [hR]; decide) (Nat.le_of_ble_eq_true rfl) dP_parent_48 ?_
        refine wm_if_eq (tgt := 64) E dP_parent_51 (by decide) (fun c51 => ?_) (fun c51 => ?_)
        · have h := (if_pos c51).symm.trans h
          refine wm_aload E dP_parent_64 (j := 0) rfl ?_
          refine wm_iload_n E dP_parent_66 rfl (j := 3) rfl ?_
          refine wm_iload_n E dP_parent_67 rfl (j := 5) rfl ?_
          refine wm_iload E dP_parent_68 (j := 6) rfl ?_
          refine wm_iconst (x := 0) E dP_parent_70 (by decide) ?_
          obtain ⟨x71, hc71, h⟩ := b1S h
          refine wm_cS (As := [vR x9, vI v1, vI v3, vI v4, vI 0]) (st := []) E lk_P_176 sc_P_comesTo (C_P_comesTo 32 (xl X) X.1 x9 v1 v3 v4 0 μ _ hc71) rfl rfl (by rw [hR]; decide) (by rw [hR]; decide) (Nat.le_of_ble_eq_true rfl) dP_parent_71 ?_
          refine wm_if_ne (tgt := 89) E dP_parent_74 (by decide) (fun c74 => ?_) (fun c74 => ?_)
          · have h := (if_neg c74).symm.trans h
            refine wm_pick (lv' := []) [] rfl ?_
            exact w_P_parent_89 E hQ hR hI μ h
          · have h := (if_pos c74).symm.trans h
            refine wm_aload E dP_parent_77 (j := 1) rfl ?_
            refine wm_gR E fd_P_180 h dP_parent_79 (fun x79 h => ?_)
            obtain ⟨u82, hr82, h⟩ := b1S h
            obtain ⟨x82, hc82, h⟩ := b1S h
            refine wm_cV (ci := 0) (As := []) (st := []) E lk_P_98 rfl im_Al_size sl_Al_size hr82 (C_Al_size (xl X) X.1 x79 μ _ hc82) rfl rfl (by rw [hR]; decide) (by rw [hR]; decide) (Nat.le_of_ble_eq_true rfl) dP_parent_82 ?_
            refine wm_iconst (x := 4) E dP_parent_85 (by decide) ?_
            refine wm_icmp_lt (tgt := 99) E dP_parent_86 (by decide) (fun c86 => ?_) (fun c86 => ?_)
            · have h := (if_pos c86).symm.trans h
              refine wm_aload E dP_parent_99 (j := 1) rfl ?_
              refine wm_gR E fd_P_180 h dP_parent_101 (fun x101 h => ?_)
              refine wm_new E nd_P_185 h (by rw [hR]; decide) (by rw [hR]; decide) dP_parent_104 (fun x104 m104 h => ?_)
              refine wm_dup E dP_parent_107 rfl ?_
              refine wm_aload E dP_parent_108 (j := 0) rfl ?_
              refine wm_iload_n E dP_parent_110 rfl (j := 5) rfl ?_
              refine wm_iload E dP_parent_111 (j := 6) rfl ?_
              obtain ⟨u113, hr113, h⟩ := b1S h
              obtain ⟨x113, m113, hc113, h⟩ := b2S h
              refine wm_cI (ci := 5) (As := [vR x9, vI v3, vI v4]) (st := [vR x104, vR x101]) E lk_P_187 rfl rfl im_Li_init hr113 (C_Li_init (xl X) X.1 x104 x9 v3 v4 m104 _ _ hc113) rfl rfl (by rw [hR]; decide) (by rw [hR]; decide) (Nat.le_of_ble_eq_true rfl) dP_parent_113 ?_
              obtain ⟨u116, hr116, h⟩ := b1S h
              obtain ⟨x116, m116, hc116, h⟩ := b2S h
              refine wm_cV (ci := 0) (As := [vR x104]) (st := []) E lk_P_112 rfl im_Al_add sl_Al_add hr116 (C_Al_add (xl X) X.1 x101 x104 m113 _ _ hc116) rfl rfl (by rw [hR]; decide) (by rw [hR]; decide) (Nat.le_of_ble_eq_true rfl) dP_parent_116 ?_
              refine wm_pop E dP_parent_119 rfl ?_
              exact wm_vret E (rqV hQ h) rfl rfl (by decide) (by decide) dP_parent_120
            · have h := (if_neg c86).symm.trans h
              refine wm_pick (lv' := []) [] rfl ?_
              exact w_P_parent_89 E hQ hR hI μ h
        · have h := (if_neg c51).symm.trans h
          obtain ⟨μs, hX⟩ := rqXV hQ h
          exact wm_throw (ln := 2) (names := exU) (cls := "java/lang/UnsupportedOperationException") E tf_P_171_173 hX ⟨(by rw [hR]; decide), by decide⟩ ⟨(by rw [hR]; decide), by decide⟩ (by rw [hR]; decide) (by rw [hR]; decide) (Nat.le_of_ble_eq_true rfl) dP_parent_54 dP_parent_57 (Or.inl ⟨rfl, dP_parent_58⟩) dP_parent_60 dP_parent_63
      · have h := (if_pos c30).symm.trans h
        refine wm_pick (lv' := []) [] rfl ?_
        exact w_P_parent_33 E hQ hR hI μ h
theorem C_P_parent (l : Launch) (G : GG) (v0 : Option Nat) (v1 : Int32) (v2 : Int32) (v3 : Int32) (v4 : Int32) (μ μ' : Mem) (r : Unit) (h : S_P_parent v0 v1 v2 v3 v4 μ = some (.inr r, μ')) : CT l G y_P_parent prog_1_method_8_code 7 none 38 2 36 1124 μ [vR v0, vI v1, vI v2, vI v3, vI v4] none μ' := by
  refine wm_met (lv := [(0, vR v0), (1, vI v1), (2, vI v2), (3, vI v3), (4, vI v4)]) (by decide +kernel) (Nat.le_of_ble_eq_true rfl) rfl (fun X E hQ hR hI => ?_)
  exact w_P_parent_e (r := .inr r) E hQ hR hI v0 v1 v2 v3 v4 μ h
theorem X_P_parent (l : Launch) (hl : LF l) (G : GG) (v0 : Option Nat) (v1 : Int32) (v2 : Int32) (v3 : Int32) (v4 : Int32) (μ μ' : Mem) (k : Nat) (h : S_P_parent v0 v1 v2 v3 v4 (m_up μ) = some (.inl k, μ')) : CZ l G y_P_parent prog_1_method_8_code 7 none 38 2 36 1124 μ [vR v0, vI v1, vI v2, vI v3, vI v4] (exN k) := by
  refine wm_metX hl (lv := [(0, vR v0), (1, vI v1), (2, vI v2), (3, vI v3), (4, vI v4)]) (by decide +kernel) (Nat.le_of_ble_eq_true rfl) rfl (fun X E hX hR hI => ?_)
  exact w_P_parent_e (μ0 := μ) (r := .inl k) E ⟨μ, hX⟩ hR hI v0 v1 v2 v3 v4 (m_up μ) h
def B_Pl_isRemovedOn_13 (μ : Mem)   (s0 : Int32) : Option Int32 := gd (¬ okZ s0 = true) (some (s0))
set_option maxHeartbeats 4000000 in
set_option maxRecDepth 100000 in
theorem w_Pl_isRemovedOn_13 {X : CX} (E : EV X prog_8_method_5_code 2 "PlaceFinder$Place" (some .boolean)) {μ0 μ : Mem} {r : Int32} (hQ : RQ X 0 0 μ0 (some (vI r)) μ) (hR : xR X = { frames := 0, cells := 0, slots := 0, locals := 0 }) (hI : X.2.2.2.2.2.2.2.2.2.2.2.1.name = "isRemovedOn")  (s0 : Int32) (h : B_Pl_isRemovedOn_13 μ  s0 = some r) : WM X 2 13 [] [vI s0] 0 0 μ := by
  have h : (gd (¬ okZ s0 = true) (some (s0))) = some r := h
  obtain ⟨hz13, h⟩ := gdS h
  exact wm_zret (rt := .boolean) E hQ (rqI1 h) rfl (okZN hz13) (by decide) (by decide) dPl_isRemovedOn_13
def S_Pl_isRemovedOn (v0 : Option Nat) (v1 : Int32) (μ : Mem) : Option Int32 := b1 (gI μ v0 7 2) (fun x1 => if v1 < x1 then B_Pl_isRemovedOn_13 μ 0 else B_Pl_isRemovedOn_13 μ 1)
set_option maxHeartbeats 4000000 in
set_option maxRecDepth 100000 in
theorem C_Pl_isRemovedOn (l : Launch) (G : GG) (v0 : Option Nat) (v1 : Int32) (μ : Mem) (r : Int32) (h : S_Pl_isRemovedOn v0 v1 μ = some r) : CT l G y_Pl_isRemovedOn prog_8_method_5_code 2 (some .boolean) 0 0 0 0 μ [vR v0, vI v1] (some (vI r)) μ := by
  refine wm_met (lv := [(0, vR v0), (1, vI v1)]) (by decide +kernel) (Nat.le_of_ble_eq_true rfl) rfl (fun X E hQ hR hI => ?_)
  have h : (b1 (gI μ v0 7 2) (fun x1 => if v1 < x1 then B_Pl_isRemovedOn_13 μ 0 else B_Pl_isRemovedOn_13 μ 1)) = some r := h
  refine wm_aload_n E dPl_isRemovedOn_0 rfl (j := 0) rfl ?_
  refine wm_gI E fd_Pl_9 h dPl_isRemovedOn_1 (fun x1 h => ?_)
  refine wm_iload_n E dPl_isRemovedOn_4 rfl (j := 1) rfl ?_
  refine wm_icmp_gt (tgt := 12) E dPl_isRemovedOn_5 (by decide) (fun c5 => ?_) (fun c5 => ?_)
  · have h := (if_pos c5).symm.trans h
    refine wm_iconst (x := 0) E dPl_isRemovedOn_12 (by decide) ?_
    refine wm_pick (lv' := []) [] rfl ?_
    exact w_Pl_isRemovedOn_13 E hQ hR hI 0 h
  · have h := (if_neg c5).symm.trans h
    refine wm_iconst (x := 1) E dPl_isRemovedOn_8 (by decide) ?_
    refine wm_goto (tgt := 13) E dPl_isRemovedOn_9 (by decide) ?_
    refine wm_pick (lv' := []) [] rfl ?_
    exact w_Pl_isRemovedOn_13 E hQ hR hI 1 h
def B_P_remove_17   (μ : Mem) : Option ((Nat ⊕ Unit) × Mem) := some (.inl 0, μ)
set_option maxHeartbeats 4000000 in
set_option maxRecDepth 100000 in
theorem w_P_remove_17 {X : CX} (E : EV X prog_1_method_9_code 4 "PlaceFinder" none) {μ0 μ' : Mem} {r : (Nat ⊕ Unit)} (hQ : RQ2 X 1 6 μ0 (cvV r) μ') (hR : xR X = { frames := 6, cells := 1, slots := 6, locals := 99 }) (hI : X.2.2.2.2.2.2.2.2.2.2.2.1.name = "remove")   (μ : Mem) (h : B_P_remove_17   μ = some (r, μ')) : WM X 4 17 [] [] 0 0 μ := by
  have h : (some (.inl 0, μ)) = some (r, μ') := h
  obtain ⟨μs, hX⟩ := rqXV hQ h
  exact wm_throw (ln := 2) (names := exU) (cls := "java/lang/IllegalArgumentException") E tf_P_91_131 hX ⟨(by rw [hR]; decide), by decide⟩ ⟨(by rw [hR]; decide), by decide⟩ (by rw [hR]; decide) (by rw [hR]; decide) (Nat.le_of_ble_eq_true rfl) dP_remove_17 dP_remove_20 (Or.inl ⟨rfl, dP_remove_21⟩) dP_remove_23 dP_remove_26
def S_P_remove (v0 : Option Nat) (v1 : Int32) (v2 : Int32) (μ : Mem) : Option ((Nat ⊕ Unit) × Mem) := b1 (rc μ v0 11) (fun _ => b1 (S_P_placeOf v0 v1 μ) (fun x2 => if x2 = none then B_P_remove_17 μ else b1 (S_P_isDay v2 μ) (fun x11 => if x11 = 0 then B_P_remove_17 μ else b1 (rc μ x2 7) (fun _ => b1 (S_Pl_isRemovedOn x2 v2 μ) (fun x29 => if x29 = 0 then b1 (pV μ x2 7 2 (vI v2)) (fun m47 => some (.inr (), m47)) else some (.inl 1, μ))))))
set_option maxHeartbeats 4000000 in
set_option maxRecDepth 100000 in
theorem w_P_remove_e {X : CX} (E : EV X prog_1_method_9_code 4 "PlaceFinder" none) {μ0 μ' : Mem} {r : (Nat ⊕ Unit)} (hQ : RQ2 X 1 6 μ0 (cvV r) μ') (hR : xR X = { frames := 6, cells := 1, slots := 6, locals := 99 }) (hI : X.2.2.2.2.2.2.2.2.2.2.2.1.name = "remove") (v0 : Option Nat) (v1 : Int32) (v2 : Int32) (μ : Mem) (h : S_P_remove v0 v1 v2 μ = some (r, μ')) : WM X 4 0 [(0, vR v0), (1, vI v1), (2, vI v2)] [] 0 0 μ := by
  have h : (b1 (rc μ v0 11) (fun _ => b1 (S_P_placeOf v0 v1 μ) (fun x2 => if x2 = none then B_P_remove_17 μ else b1 (S_P_isDay v2 μ) (fun x11 => if x11 = 0 then B_P_remove_17 μ else b1 (rc μ x2 7) (fun _ => b1 (S_Pl_isRemovedOn x2 v2 μ) (fun x29 => if x29 = 0 then b1 (pV μ x2 7 2 (vI v2)) (fun m47 => some (.inr (), m47)) else some (.inl 1, μ))))))) = some (r, μ') := h
  refine wm_aload_n E dP_remove_0 rfl (j := 0) rfl ?_
  refine wm_iload_n E dP_remove_1 rfl (j := 1) rfl ?_
  obtain ⟨u2, hr2, h⟩ := b1S h
  obtain ⟨x2, hc2, h⟩ := b1S h
  refine wm_cV (ci := 11) (As := [vI v1]) (st := []) E lk_P_124 rfl im_P_placeOf sl_P_placeOf hr2 (C_P_placeOf (xl X) X.1 v0 v1 μ _ hc2) rfl rfl (by rw [hR]; decide) (by rw [hR]; decide) (Nat.le_of_ble_eq_true rfl) dP_remove_2 ?_
  refine wm_astore_n (lv' := [(3, vR x2), (0, vR v0), (1, vI v1), (2, vI v2)]) E dP_remove_5 rfl (by decide) rfl ?_
  refine wm_aload_n E dP_remove_6 rfl (j := 0) rfl ?_
  refine wm_ifnull (tgt := 17) E dP_remove_7 (by decide) (fun c7 => ?_) (fun c7 => ?_)
  · have h := (if_pos c7).symm.trans h
    refine wm_pick (lv' := []) [] rfl ?_
    exact w_P_remove_17 E hQ hR hI μ h
  · have h := (if_neg c7).symm.trans h
    refine wm_iload_n E dP_remove_10 rfl (j := 3) rfl ?_
    obtain ⟨x11, hc11, h⟩ := b1S h
    refine wm_cS (As := [vI v2]) (st := []) E lk_P_128 sc_P_isDay (C_P_isDay (xl X) X.1 v2 μ _ hc11) rfl rfl (by rw [hR]; decide) (by rw [hR]; decide) (Nat.le_of_ble_eq_true rfl) dP_remove_11 ?_
    refine wm_if_ne (tgt := 27) E dP_remove_14 (by decide) (fun c14 => ?_) (fun c14 => ?_)
    · have h := (if_neg c14).symm.trans h
      refine wm_aload_n E dP_remove_27 rfl (j := 0) rfl ?_
      refine wm_iload_n E dP_remove_28 rfl (j := 3) rfl ?_
      obtain ⟨u29, hr29, h⟩ := b1S h
      obtain ⟨x29, hc29, h⟩ := b1S h
      refine wm_cV (ci := 7) (As := [vI v2]) (st := []) E lk_P_190 rfl im_Pl_isRemovedOn sl_Pl_isRemovedOn hr29 (C_Pl_isRemovedOn (xl X) X.1 x2 v2 μ _ hc29) rfl rfl (by rw [hR]; decide) (by rw [hR]; decide) (Nat.le_of_ble_eq_true rfl) dP_remove_29 ?_
      refine wm_if_eq (tgt := 45) E dP_remove_32 (by decide) (fun c32 => ?_) (fun c32 => ?_)
      · have h := (if_pos c32).symm.trans h
        refine wm_aload_n E dP_remove_45 rfl (j := 0) rfl ?_
        refine wm_iload_n E dP_remove_46 rfl (j := 3) rfl ?_
        refine wm_pI E fp_P_195 (fun q => by cases q) h dP_remove_47 (fun m47 h => ?_)
        exact wm_vret E (rqV hQ h) rfl rfl (by decide) (by decide) dP_remove_50
      · have h := (if_neg c32).symm.trans h
        obtain ⟨μs, hX⟩ := rqXV hQ h
        exact wm_throw (ln := 2) (names := exU) (cls := "java/lang/IllegalStateException") E tf_P_102_193 hX ⟨(by rw [hR]; decide), by decide⟩ ⟨(by rw [hR]; decide), by decide⟩ (by rw [hR]; decide) (by rw [hR]; decide) (Nat.le_of_ble_eq_true rfl) dP_remove_35 dP_remove_38 (Or.inl ⟨rfl, dP_remove_39⟩) dP_remove_41 dP_remove_44
    · have h := (if_pos c14).symm.trans h
      refine wm_pick (lv' := []) [] rfl ?_
      exact w_P_remove_17 E hQ hR hI μ h
theorem C_P_remove (l : Launch) (G : GG) (v0 : Option Nat) (v1 : Int32) (v2 : Int32) (μ μ' : Mem) (r : Unit) (h : S_P_remove v0 v1 v2 μ = some (.inr r, μ')) : CT l G y_P_remove prog_1_method_9_code 4 none 6 1 6 99 μ [vR v0, vI v1, vI v2] none μ' := by
  refine wm_met (lv := [(0, vR v0), (1, vI v1), (2, vI v2)]) (by decide +kernel) (Nat.le_of_ble_eq_true rfl) rfl (fun X E hQ hR hI => ?_)
  exact w_P_remove_e (r := .inr r) E hQ hR hI v0 v1 v2 μ h
theorem X_P_remove (l : Launch) (hl : LF l) (G : GG) (v0 : Option Nat) (v1 : Int32) (v2 : Int32) (μ μ' : Mem) (k : Nat) (h : S_P_remove v0 v1 v2 (m_up μ) = some (.inl k, μ')) : CZ l G y_P_remove prog_1_method_9_code 4 none 6 1 6 99 μ [vR v0, vI v1, vI v2] (exN k) := by
  refine wm_metX hl (lv := [(0, vR v0), (1, vI v1), (2, vI v2)]) (by decide +kernel) (Nat.le_of_ble_eq_true rfl) rfl (fun X E hX hR hI => ?_)
  exact w_P_remove_e (μ0 := μ) (r := .inl k) E ⟨μ, hX⟩ hR hI v0 v1 v2 (m_up μ) h
def B_P_isDistance_16 (μ : Mem)   (s0 : Int32) : Option Int32 := gd (¬ okZ s0 = true) (some (s0))
set_option maxHeartbeats 4000000 in
set_option maxRecDepth 100000 in
theorem w_P_isDistance_16 {X : CX} (E : EV X prog_1_method_26_code 1 "PlaceFinder" (some .boolean)) {μ0 μ : Mem} {r : Int32} (hQ : RQ X 0 0 μ0 (some (vI r)) μ) (hR : xR X = { frames := 0, cells := 0, slots := 0, locals := 0 }) (hI : X.2.2.2.2.2.2.2.2.2.2.2.1.name = "isDistance")  (s0 : Int32) (h : B_P_isDistance_16 μ  s0 = some r) : WM X 1 16 [] [vI s0] 0 0 μ := by
  have h : (gd (¬ okZ s0 = true) (some (s0))) = some r := h
  obtain ⟨hz16, h⟩ := gdS h
  exact wm_zret (rt := .boolean) E hQ (rqI1 h) rfl (okZN hz16) (by decide) (by decide) dP_isDistance_16
def B_P_isDistance_15 (μ : Mem)    : Option Int32 := B_P_isDistance_16 μ 0
set_option maxHeartbeats 4000000 in
set_option maxRecDepth 100000 in
theorem w_P_isDistance_15 {X : CX} (E : EV X prog_1_method_26_code 1 "PlaceFinder" (some .boolean)) {μ0 μ : Mem} {r : Int32} (hQ : RQ X 0 0 μ0 (some (vI r)) μ) (hR : xR X = { frames := 0, cells := 0, slots := 0, locals := 0 }) (hI : X.2.2.2.2.2.2.2.2.2.2.2.1.name = "isDistance")   (h : B_P_isDistance_15 μ   = some r) : WM X 1 15 [] [] 0 0 μ := by
  have h : (B_P_isDistance_16 μ 0) = some r := h
  refine wm_iconst (x := 0) E dP_isDistance_15 (by decide) ?_
  refine wm_pick (lv' := []) [] rfl ?_
  exact w_P_isDistance_16 E hQ hR hI 0 h
def S_P_isDistance (v0 : Int32) (μ : Mem) : Option Int32 := if v0 < 0 then B_P_isDistance_15 μ  else if 10000 < v0 then B_P_isDistance_15 μ  else B_P_isDistance_16 μ 1
set_option maxHeartbeats 4000000 in
set_option maxRecDepth 100000 in
theorem C_P_isDistance (l : Launch) (G : GG) (v0 : Int32) (μ : Mem) (r : Int32) (h : S_P_isDistance v0 μ = some r) : CT l G y_P_isDistance prog_1_method_26_code 1 (some .boolean) 0 0 0 0 μ [vI v0] (some (vI r)) μ := by
  refine wm_met (lv := [(0, vI v0)]) (by decide +kernel) (Nat.le_of_ble_eq_true rfl) rfl (fun X E hQ hR hI => ?_)
  have h : (if v0 < 0 then B_P_isDistance_15 μ  else if 10000 < v0 then B_P_isDistance_15 μ  else B_P_isDistance_16 μ 1) = some r := h
  refine wm_iload_n E dP_isDistance_0 rfl (j := 0) rfl ?_
  refine wm_if_lt (tgt := 15) E dP_isDistance_1 (by decide) (fun c1 => ?_) (fun c1 => ?_)
  · have h := (if_pos c1).symm.trans h
    refine wm_pick (lv' := []) [] rfl ?_
    exact w_P_isDistance_15 E hQ hR hI  h
  · have h := (if_neg c1).symm.trans h
    refine wm_iload_n E dP_isDistance_4 rfl (j := 0) rfl ?_
    refine wm_sipush (x := 10000) E dP_isDistance_5 (by decide) ?_
    refine wm_icmp_gt (tgt := 15) E dP_isDistance_8 (by decide) (fun c8 => ?_) (fun c8 => ?_)
    · have h := (if_pos c8).symm.trans h
      refine wm_pick (lv' := []) [] rfl ?_
      exact w_P_isDistance_15 E hQ hR hI  h
    · have h := (if_neg c8).symm.trans h
      refine wm_iconst (x := 1) E dP_isDistance_11 (by decide) ?_
      refine wm_goto (tgt := 16) E dP_isDistance_12 (by decide) ?_
      refine wm_pick (lv' := []) [] rfl ?_
      exact w_P_isDistance_16 E hQ hR hI 1 h
def B_P_areCondition_52 (μ : Mem)    : Option Int32 := gd (¬ okZ 1 = true) (some (1))
set_option maxHeartbeats 4000000 in
set_option maxRecDepth 100000 in
theorem w_P_areCondition_52 {X : CX} (E : EV X prog_1_method_27_code 5 "PlaceFinder" (some .boolean)) {μ0 μ : Mem} {r : Int32} (hQ : RQ X 0 0 μ0 (some (vI r)) μ) (hR : xR X = { frames := 4, cells := 0, slots := 0, locals := 85 }) (hI : X.2.2.2.2.2.2.2.2.2.2.2.1.name = "areCondition")   (h : B_P_areCondition_52 μ   = some r) : WM X 5 52 [] [] 0 0 μ := by
  have h : (gd (¬ okZ 1 = true) (some (1))) = some r := h
  refine wm_iconst (x := 1) E dP_areCondition_52 (by decide) ?_
  obtain ⟨hz53, h⟩ := gdS h
  exact wm_zret (rt := .boolean) E hQ (rqI1 h) rfl (okZN hz53) (by decide) (by decide) dP_areCondition_53
def B_P_areCondition_68 (μ : Mem)   (s0 : Int32) : Option Int32 := gd (¬ okZ s0 = true) (some (s0))
set_option maxHeartbeats 4000000 in
set_option maxRecDepth 100000 in
theorem w_P_areCondition_68 {X : CX} (E : EV X prog_1_method_27_code 5 "PlaceFinder" (some .boolean)) {μ0 μ : Mem} {r : Int32} (hQ : RQ X 0 0 μ0 (some (vI r)) μ) (hR : xR X = { frames := 4, cells := 0, slots := 0, locals := 85 }) (hI : X.2.2.2.2.2.2.2.2.2.2.2.1.name = "areCondition")  (s0 : Int32) (h : B_P_areCondition_68 μ  s0 = some r) : WM X 5 68 [] [vI s0] 0 0 μ := by
  have h : (gd (¬ okZ s0 = true) (some (s0))) = some r := h
  obtain ⟨hz68, h⟩ := gdS h
  exact wm_zret (rt := .boolean) E hQ (rqI1 h) rfl (okZN hz68) (by decide) (by decide) dP_areCondition_68
def B_P_areCondition_67 (μ : Mem)    : Option Int32 := B_P_areCondition_68 μ 0
set_option maxHeartbeats 4000000 in
set_option maxRecDepth 100000 in
theorem w_P_areCondition_67 {X : CX} (E : EV X prog_1_method_27_code 5 "PlaceFinder" (some .boolean)) {μ0 μ : Mem} {r : Int32} (hQ : RQ X 0 0 μ0 (some (vI r)) μ) (hR : xR X = { frames := 4, cells := 0, slots := 0, locals := 85 }) (hI : X.2.2.2.2.2.2.2.2.2.2.2.1.name = "areCondition")   (h : B_P_areCondition_67 μ   = some r) : WM X 5 67 [] [] 0 0 μ := by
  have h : (B_P_areCondition_68 μ 0) = some r := h
  refine wm_iconst (x := 0) E dP_areCondition_67 (by decide) ?_
  refine wm_pick (lv' := []) [] rfl ?_
  exact w_P_areCondition_68 E hQ hR hI 0 h
def B_P_areCondition_87 (μ : Mem)   (s0 : Int32) : Option Int32 := gd (¬ okZ s0 = true) (some (s0))
set_option maxHeartbeats 4000000 in
set_option maxRecDepth 100000 in
theorem w_P_areCondition_87 {X : CX} (E : EV X prog_1_method_27_code 5 "PlaceFinder" (some .boolean)) {μ0 μ : Mem} {r : Int32} (hQ : RQ X 0 0 μ0 (some (vI r)) μ) (hR : xR X = { frames := 4, cells := 0, slots := 0, locals := 85 }) (hI : X.2.2.2.2.2.2.2.2.2.2.2.1.name = "areCondition")  (s0 : Int32) (h : B_P_areCondition_87 μ  s0 = some r) : WM X 5 87 [] [vI s0] 0 0 μ := by
  have h : (gd (¬ okZ s0 = true) (some (s0))) = some r := h
  obtain ⟨hz87, h⟩ := gdS h
  exact wm_zret (rt := .boolean) E hQ (rqI1 h) rfl (okZN hz87) (by decide) (by decide) dP_areCondition_87
def B_P_areCondition_74 (μ : Mem)   (v0 : Option Nat) (v2 : Int32) : Option Int32 := b1 (rc μ v0 11) (fun _ => b1 (S_P_placeOf v0 v2 μ) (fun x76 => if x76 = none then B_P_areCondition_87 μ 0 else B_P_areCondition_87 μ 1))
set_option maxHeartbeats 4000000 in
set_option maxRecDepth 100000 in
theorem w_P_areCondition_74 {X : CX} (E : EV X prog_1_method_27_code 5 "PlaceFinder" (some .boolean)) {μ0 μ : Mem} {r : Int32} (hQ : RQ X 0 0 μ0 (some (vI r)) μ) (hR : xR X = { frames := 4, cells := 0, slots := 0, locals := 85 }) (hI : X.2.2.2.2.2.2.2.2.2.2.2.1.name = "areCondition")  (v0 : Option Nat) (v2 : Int32) (h : B_P_areCondition_74 μ  v0 v2 = some r) : WM X 5 74 [(0, vR v0), (2, vI v2)] [] 0 0 μ := by
  have h : (b1 (rc μ v0 11) (fun _ => b1 (S_P_placeOf v0 v2 μ) (fun x76 => if x76 = none then B_P_areCondition_87 μ 0 else B_P_areCondition_87 μ 1))) = some r := h
  refine wm_aload_n E dP_areCondition_74 rfl (j := 0) rfl ?_
  refine wm_iload_n E dP_areCondition_75 rfl (j := 1) rfl ?_
  obtain ⟨u76, hr76, h⟩ := b1S h
  obtain ⟨x76, hc76, h⟩ := b1S h
  refine wm_cV (ci := 11) (As := [vI v2]) (st := []) E lk_P_124 rfl im_P_placeOf sl_P_placeOf hr76 (C_P_placeOf (xl X) X.1 v0 v2 μ _ hc76) rfl rfl (by rw [hR]; decide) (by rw [hR]; decide) (Nat.le_of_ble_eq_true rfl) dP_areCondition_76 ?_
  refine wm_ifnull (tgt := 86) E dP_areCondition_79 (by decide) (fun c79 => ?_) (fun c79 => ?_)
  · have h := (if_pos c79).symm.trans h
    refine wm_iconst (x := 0) E dP_areCondition_86 (by decide) ?_
    refine wm_pick (lv' := []) [] rfl ?_
    exact w_P_areCondition_87 E hQ hR hI 0 h
  · have h := (if_neg c79).symm.trans h
    refine wm_iconst (x := 1) E dP_areCondition_82 (by decide) ?_
    refine wm_goto (tgt := 87) E dP_areCondition_83 (by decide) ?_
    refine wm_pick (lv' := []) [] rfl ?_
    exact w_P_areCondition_87 E hQ hR hI 1 h
def B_P_areCondition_109 (μ : Mem)   (s0 : Int32) : Option Int32 := gd (¬ okZ s0 = true) (some (s0))
set_option maxHeartbeats 4000000 in
set_option maxRecDepth 100000 in
theorem w_P_areCondition_109 {X : CX} (E : EV X prog_1_method_27_code 5 "PlaceFinder" (some .boolean)) {μ0 μ : Mem} {r : Int32} (hQ : RQ X 0 0 μ0 (some (vI r)) μ) (hR : xR X = { frames := 4, cells := 0, slots := 0, locals := 85 }) (hI : X.2.2.2.2.2.2.2.2.2.2.2.1.name = "areCondition")  (s0 : Int32) (h : B_P_areCondition_109 μ  s0 = some r) : WM X 5 109 [] [vI s0] 0 0 μ := by
  have h : (gd (¬ okZ s0 = true) (some (s0))) = some r := h
  obtain ⟨hz109, h⟩ := gdS h
  exact wm_zret (rt := .boolean) E hQ (rqI1 h) rfl (okZN hz109) (by decide) (by decide) dP_areCondition_109
def B_P_areCondition_108 (μ : Mem)    : Option Int32 := B_P_areCondition_109 μ 0
set_option maxHeartbeats 4000000 in
set_option maxRecDepth 100000 in
theorem w_P_areCondition_108 {X : CX} (E : EV X prog_1_method_27_code 5 "PlaceFinder" (some .boolean)) {μ0 μ : Mem} {r : Int32} (hQ : RQ X 0 0 μ0 (some (vI r)) μ) (hR : xR X = { frames := 4, cells := 0, slots := 0, locals := 85 }) (hI : X.2.2.2.2.2.2.2.2.2.2.2.1.name = "areCondition")   (h : B_P_areCondition_108 μ   = some r) : WM X 5 108 [] [] 0 0 μ := by
  have h : (B_P_areCondition_109 μ 0) = some r := h
  refine wm_iconst (x := 0) E dP_areCondition_108 (by decide) ?_
  refine wm_pick (lv' := []) [] rfl ?_
  exact w_P_areCondition_109 E hQ hR hI 0 h
def S_P_areCondition (v0 : Option Nat) (v1 : Int32) (v2 : Int32) (v3 : Int32) (v4 : Int32) (μ : Mem) : Option Int32 := if v1 = 0 then B_P_areCondition_52 μ  else if v1 = 1 then B_P_areCondition_52 μ  else if v1 = 2 then if v2 < 0 then B_P_areCondition_67 μ  else if 2 < v2 then B_P_areCondition_67 μ  else B_P_areCondition_68 μ 1 else if v1 = 3 then B_P_areCondition_52 μ  else if v1 = 4 then b1 (S_P_isKind v2 μ) (fun x70 => gd (¬ okZ x70 = true) (some (x70))) else if v1 = 5 then B_P_areCondition_74 μ v0 v2 else if v1 = 6 then B_P_areCondition_74 μ v0 v2 else if v1 = 7 then b1 (S_P_arePosition v2 v3 μ) (fun x90 => if x90 = 0 then B_P_areCondition_108 μ  else b1 (S_P_isDistance v4 μ) (fun x98 => if x98 = 0 then B_P_areCondition_108 μ  else B_P_areCondition_109 μ 1)) else if v1 = 8 then b1 (S_P_isDistance v2 μ) (fun x111 => gd (¬ okZ x111 = true) (some (x111))) else gd (¬ okZ 0 = true) (some (0))
set_option maxHeartbeats 4000000 in
set_option maxRecDepth 100000 in
theorem C_P_areCondition (l : Launch) (G : GG) (v0 : Option Nat) (v1 : Int32) (v2 : Int32) (v3 : Int32) (v4 : Int32) (μ : Mem) (r : Int32) (h : S_P_areCondition v0 v1 v2 v3 v4 μ = some r) : CT l G y_P_areCondition prog_1_method_27_code 5 (some .boolean) 4 0 0 85 μ [vR v0, vI v1, vI v2, vI v3, vI v4] (some (vI r)) μ := by
  refine wm_met (lv := [(0, vR v0), (1, vI v1), (2, vI v2), (3, vI v3), (4, vI v4)]) (by decide +kernel) (Nat.le_of_ble_eq_true rfl) rfl (fun X E hQ hR hI => ?_)
  have h : (if v1 = 0 then B_P_areCondition_52 μ  else if v1 = 1 then B_P_areCondition_52 μ  else if v1 = 2 then if v2 < 0 then B_P_areCondition_67 μ  else if 2 < v2 then B_P_areCondition_67 μ  else B_P_areCondition_68 μ 1 else if v1 = 3 then B_P_areCondition_52 μ  else if v1 = 4 then b1 (S_P_isKind v2 μ) (fun x70 => gd (¬ okZ x70 = true) (some (x70))) else if v1 = 5 then B_P_areCondition_74 μ v0 v2 else if v1 = 6 then B_P_areCondition_74 μ v0 v2 else if v1 = 7 then b1 (S_P_arePosition v2 v3 μ) (fun x90 => if x90 = 0 then B_P_areCondition_108 μ  else b1 (S_P_isDistance v4 μ) (fun x98 => if x98 = 0 then B_P_areCondition_108 μ  else B_P_areCondition_109 μ 1)) else if v1 = 8 then b1 (S_P_isDistance v2 μ) (fun x111 => gd (¬ okZ x111 = true) (some (x111))) else gd (¬ okZ 0 = true) (some (0))) = some r := h
  refine wm_iload_n E dP_areCondition_0 rfl (j := 1) rfl ?_
  by_cases c1_0 : v1 = 0
  · have h := (if_pos c1_0).symm.trans h
    refine wm_tabIn (tgt := 52) E dP_areCondition_1 (0) ((congrArg Int32.toInt c1_0).trans (by decide)) (by decide) (by decide) rfl (by decide) ?_
    refine wm_pick (lv' := []) [] rfl ?_
    exact w_P_areCondition_52 E hQ hR hI  h
  · have h := (if_neg c1_0).symm.trans h
    by_cases c1_1 : v1 = 1
    · have h := (if_pos c1_1).symm.trans h
      refine wm_tabIn (tgt := 52) E dP_areCondition_1 (1) ((congrArg Int32.toInt c1_1).trans (by decide)) (by decide) (by decide) rfl (by decide) ?_
      refine wm_pick (lv' := []) [] rfl ?_
      exact w_P_areCondition_52 E hQ hR hI  h
    · have h := (if_neg c1_1).symm.trans h
      by_cases c1_2 : v1 = 2
      · have h := (if_pos c1_2).symm.trans h
        refine wm_tabIn (tgt := 54) E dP_areCondition_1 (2) ((congrArg Int32.toInt c1_2).trans (by decide)) (by decide) (by decide) rfl (by decide) ?_
        refine wm_iload_n E dP_areCondition_54 rfl (j := 2) rfl ?_
        refine wm_if_lt (tgt := 67) E dP_areCondition_55 (by decide) (fun c55 => ?_) (fun c55 => ?_)
        · have h := (if_pos c55).symm.trans h
          refine wm_pick (lv' := []) [] rfl ?_
          exact w_P_areCondition_67 E hQ hR hI  h
        · have h := (if_neg c55).symm.trans h
          refine wm_iload_n E dP_areCondition_58 rfl (j := 2) rfl ?_
          refine wm_iconst (x := 2) E dP_areCondition_59 (by decide) ?_
          refine wm_icmp_gt (tgt := 67) E dP_areCondition_60 (by decide) (fun c60 => ?_) (fun c60 => ?_)
          · have h := (if_pos c60).symm.trans h
            refine wm_pick (lv' := []) [] rfl ?_
            exact w_P_areCondition_67 E hQ hR hI  h
          · have h := (if_neg c60).symm.trans h
            refine wm_iconst (x := 1) E dP_areCondition_63 (by decide) ?_
            refine wm_goto (tgt := 68) E dP_areCondition_64 (by decide) ?_
            refine wm_pick (lv' := []) [] rfl ?_
            exact w_P_areCondition_68 E hQ hR hI 1 h
      · have h := (if_neg c1_2).symm.trans h
        by_cases c1_3 : v1 = 3
        · have h := (if_pos c1_3).symm.trans h
          refine wm_tabIn (tgt := 52) E dP_areCondition_1 (3) ((congrArg Int32.toInt c1_3).trans (by decide)) (by decide) (by decide) rfl (by decide) ?_
          refine wm_pick (lv' := []) [] rfl ?_
          exact w_P_areCondition_52 E hQ hR hI  h
        · have h := (if_neg c1_3).symm.trans h
          by_cases c1_4 : v1 = 4
          · have h := (if_pos c1_4).symm.trans h
            refine wm_tabIn (tgt := 69) E dP_areCondition_1 (4) ((congrArg Int32.toInt c1_4).trans (by decide)) (by decide) (by decide) rfl (by decide) ?_
            refine wm_iload_n E dP_areCondition_69 rfl (j := 2) rfl ?_
            obtain ⟨x70, hc70, h⟩ := b1S h
            refine wm_cS (As := [vI v2]) (st := []) E lk_P_87 sc_P_isKind (C_P_isKind (xl X) X.1 v2 μ _ hc70) rfl rfl (by rw [hR]; decide) (by rw [hR]; decide) (Nat.le_of_ble_eq_true rfl) dP_areCondition_70 ?_
            obtain ⟨hz73, h⟩ := gdS h
            exact wm_zret (rt := .boolean) E hQ (rqI1 h) rfl (okZN hz73) (by decide) (by decide) dP_areCondition_73
          · have h := (if_neg c1_4).symm.trans h
            by_cases c1_5 : v1 = 5
            · have h := (if_pos c1_5).symm.trans h
              refine wm_tabIn (tgt := 74) E dP_areCondition_1 (5) ((congrArg Int32.toInt c1_5).trans (by decide)) (by decide) (by decide) rfl (by decide) ?_
              refine wm_pick (lv' := [(0, vR v0), (2, vI v2)]) [0, 2] rfl ?_
              exact w_P_areCondition_74 E hQ hR hI v0 v2 h
            · have h := (if_neg c1_5).symm.trans h
              by_cases c1_6 : v1 = 6
              · have h := (if_pos c1_6).symm.trans h
                refine wm_tabIn (tgt := 74) E dP_areCondition_1 (6) ((congrArg Int32.toInt c1_6).trans (by decide)) (by decide) (by decide) rfl (by decide) ?_
                refine wm_pick (lv' := [(0, vR v0), (2, vI v2)]) [0, 2] rfl ?_
                exact w_P_areCondition_74 E hQ hR hI v0 v2 h
              · have h := (if_neg c1_6).symm.trans h
                by_cases c1_7 : v1 = 7
                · have h := (if_pos c1_7).symm.trans h
                  refine wm_tabIn (tgt := 88) E dP_areCondition_1 (7) ((congrArg Int32.toInt c1_7).trans (by decide)) (by decide) (by decide) rfl (by decide) ?_
                  refine wm_iload_n E dP_areCondition_88 rfl (j := 2) rfl ?_
                  refine wm_iload_n E dP_areCondition_89 rfl (j := 3) rfl ?_
                  obtain ⟨x90, hc90, h⟩ := b1S h
                  refine wm_cS (As := [vI v2, vI v3]) (st := []) E lk_P_116 sc_P_arePosition (C_P_arePosition (xl X) X.1 v2 v3 μ _ hc90) rfl rfl (by rw [hR]; decide) (by rw [hR]; decide) (Nat.le_of_ble_eq_true rfl) dP_areCondition_90 ?_
                  refine wm_if_eq (tgt := 108) E dP_areCondition_93 (by decide) (fun c93 => ?_) (fun c93 => ?_)
                  · have h := (if_pos c93).symm.trans h
                    refine wm_pick (lv' := []) [] rfl ?_
                    exact w_P_areCondition_108 E hQ hR hI  h
                  · have h := (if_neg c93).symm.trans h
                    refine wm_iload E dP_areCondition_96 (j := 4) rfl ?_
                    obtain ⟨x98, hc98, h⟩ := b1S h
                    refine wm_cS (As := [vI v4]) (st := []) E lk_P_326 sc_P_isDistance (C_P_isDistance (xl X) X.1 v4 μ _ hc98) rfl rfl (by rw [hR]; decide) (by rw [hR]; decide) (Nat.le_of_ble_eq_true rfl) dP_areCondition_98 ?_
                    refine wm_if_eq (tgt := 108) E dP_areCondition_101 (by decide) (fun c101 => ?_) (fun c101 => ?_)
                    · have h := (if_pos c101).symm.trans h
                      refine wm_pick (lv' := []) [] rfl ?_
                      exact w_P_areCondition_108 E hQ hR hI  h
                    · have h := (if_neg c101).symm.trans h
                      refine wm_iconst (x := 1) E dP_areCondition_104 (by decide) ?_
                      refine wm_goto (tgt := 109) E dP_areCondition_105 (by decide) ?_
                      refine wm_pick (lv' := []) [] rfl ?_
                      exact w_P_areCondition_109 E hQ hR hI 1 h
                · have h := (if_neg c1_7).symm.trans h
                  by_cases c1_8 : v1 = 8
                  · have h := (if_pos c1_8).symm.trans h
                    refine wm_tabIn (tgt := 110) E dP_areCondition_1 (8) ((congrArg Int32.toInt c1_8).trans (by decide)) (by decide) (by decide) rfl (by decide) ?_
                    refine wm_iload_n E dP_areCondition_110 rfl (j := 2) rfl ?_
                    obtain ⟨x111, hc111, h⟩ := b1S h
                    refine wm_cS (As := [vI v2]) (st := []) E lk_P_326 sc_P_isDistance (C_P_isDistance (xl X) X.1 v2 μ _ hc111) rfl rfl (by rw [hR]; decide) (by rw [hR]; decide) (Nat.le_of_ble_eq_true rfl) dP_areCondition_111 ?_
                    obtain ⟨hz114, h⟩ := gdS h
                    exact wm_zret (rt := .boolean) E hQ (rqI1 h) rfl (okZN hz114) (by decide) (by decide) dP_areCondition_114
                  · have h := (if_neg c1_8).symm.trans h
                    have e1_0 : v1.toInt ≠ 0 := fun q => c1_0 (Int32.toInt_inj.mp (q.trans (by decide)))
                    have e1_1 : v1.toInt ≠ 1 := fun q => c1_1 (Int32.toInt_inj.mp (q.trans (by decide)))
                    have e1_2 : v1.toInt ≠ 2 := fun q => c1_2 (Int32.toInt_inj.mp (q.trans (by decide)))
                    have e1_3 : v1.toInt ≠ 3 := fun q => c1_3 (Int32.toInt_inj.mp (q.trans (by decide)))
                    have e1_4 : v1.toInt ≠ 4 := fun q => c1_4 (Int32.toInt_inj.mp (q.trans (by decide)))
                    have e1_5 : v1.toInt ≠ 5 := fun q => c1_5 (Int32.toInt_inj.mp (q.trans (by decide)))
                    have e1_6 : v1.toInt ≠ 6 := fun q => c1_6 (Int32.toInt_inj.mp (q.trans (by decide)))
                    have e1_7 : v1.toInt ≠ 7 := fun q => c1_7 (Int32.toInt_inj.mp (q.trans (by decide)))
                    have e1_8 : v1.toInt ≠ 8 := fun q => c1_8 (Int32.toInt_inj.mp (q.trans (by decide)))
                    refine wm_tabOut (tgt := 115) E dP_areCondition_1 (by omega) (by decide) ?_
                    refine wm_iconst (x := 0) E dP_areCondition_115 (by decide) ?_
                    obtain ⟨hz116, h⟩ := gdS h
                    exact wm_zret (rt := .boolean) E hQ (rqI1 h) rfl (okZN hz116) (by decide) (by decide) dP_areCondition_116
def B_P_condition_131  (v0 : Option Nat) (μ : Mem) : Option ((Nat ⊕ Int32) × Mem) := b1 (gR μ v0 11 7) (fun x132 => b1 (rc μ x132 0) (fun _ => b1 (S_Al_size x132 μ) (fun x135 => some (.inr x135, μ))))
set_option maxHeartbeats 4000000 in
set_option maxRecDepth 100000 in
theorem w_P_condition_131 {X : CX} (E : EV X prog_1_method_10_code 6 "PlaceFinder" (some .int)) {μ0 μ' : Mem} {r : (Nat ⊕ Int32)} (hQ : RQ2 X 4 50 μ0 (cvI r) μ') (hR : xR X = { frames := 7, cells := 4, slots := 50, locals := 191 }) (hI : X.2.2.2.2.2.2.2.2.2.2.2.1.name = "condition")  (v0 : Option Nat) (μ : Mem) (h : B_P_condition_131  v0 μ = some (r, μ')) : WM X 6 131 [(0, vR v0)] [] 4 50 μ := by
  have h : (b1 (gR μ v0 11 7) (fun x132 => b1 (rc μ x132 0) (fun _ => b1 (S_Al_size x132 μ) (fun x135 => some (.inr x135, μ))))) = some (r, μ') := h
  refine wm_aload_n E dP_condition_131 rfl (j := 0) rfl ?_
  refine wm_gR E fd_P_43 h dP_condition_132 (fun x132 h => ?_)
  obtain ⟨u135, hr135, h⟩ := b1S h
  obtain ⟨x135, hc135, h⟩ := b1S h
  refine wm_cV (ci := 0) (As := []) (st := []) E lk_P_98 rfl im_Al_size sl_Al_size hr135 (C_Al_size (xl X) X.1 x132 μ _ hc135) rfl rfl (by rw [hR]; decide) (by rw [hR]; decide) (Nat.le_of_ble_eq_true rfl) dP_condition_135 ?_
  exact wm_iret (rt := .int) E (rqI hQ h) rfl rfl (by decide) (by decide) dP_condition_138
def B_P_condition_111  (v0 : Option Nat) (v5 : Int32) (s0 : Option Nat) (s1 : Option Nat) (s2 : Option Nat) (s3 : Int32) (s4 : Int32) (s5 : Int32) (s6 : Int32) (s7 : Option Nat) (s8 : Option Nat) (s9 : Option Nat) (s10 : Int32) (μ : Mem) : Option ((Nat ⊕ Int32) × Mem) := b1 (rc μ s8 10) (fun _ => b2 (S_Wo_init s8 s9 s10 μ) (fun x111 m111 => b1 (rc m111 s2 1) (fun _ => b2 (S_Cn_init s2 s3 s4 s5 s6 s7 m111) (fun x114 m114 => b1 (rc m114 s0 0) (fun _ => b2 (S_Al_add s0 s1 m114) (fun x117 m117 => if v5 = 0 then B_P_condition_131 v0 m117 else b1 (pV m117 v0 11 6 (vI 0)) (fun m128 => B_P_condition_131 v0 m128)))))))
set_option maxHeartbeats 4000000 in
set_option maxRecDepth 100000 in
theorem w_P_condition_111 {X : CX} (E : EV X prog_1_method_10_code 6 "PlaceFinder" (some .int)) {μ0 μ' : Mem} {r : (Nat ⊕ Int32)} (hQ : RQ2 X 4 50 μ0 (cvI r) μ') (hR : xR X = { frames := 7, cells := 4, slots := 50, locals := 191 }) (hI : X.2.2.2.2.2.2.2.2.2.2.2.1.name = "condition")  (v0 : Option Nat) (v5 : Int32) (s0 : Option Nat) (s1 : Option Nat) (s2 : Option Nat) (s3 : Int32) (s4 : Int32) (s5 : Int32) (s6 : Int32) (s7 : Option Nat) (s8 : Option Nat) (s9 : Option Nat) (s10 : Int32) (μ : Mem) (h : B_P_condition_111  v0 v5 s0 s1 s2 s3 s4 s5 s6 s7 s8 s9 s10 μ = some (r, μ')) : WM X 6 111 [(0, vR v0), (5, vI v5)] [vI s10, vR s9, vR s8, vR s7, vI s6, vI s5, vI s4, vI s3, vR s2, vR s1, vR s0] 2 7 μ := by
  have h : (b1 (rc μ s8 10) (fun _ => b2 (S_Wo_init s8 s9 s10 μ) (fun x111 m111 => b1 (rc m111 s2 1) (fun _ => b2 (S_Cn_init s2 s3 s4 s5 s6 s7 m111) (fun x114 m114 => b1 (rc m114 s0 0) (fun _ => b2 (S_Al_add s0 s1 m114) (fun x117 m117 => if v5 = 0 then B_P_condition_131 v0 m117 else b1 (pV m117 v0 11 6 (vI 0)) (fun m128 => B_P_condition_131 v0 m128)))))))) = some (r, μ') := h
  obtain ⟨u111, hr111, h⟩ := b1S h
  obtain ⟨x111, m111, hc111, h⟩ := b2S h
  refine wm_cI (ci := 10) (As := [vR s9, vI s10]) (st := [vR s7, vI s6, vI s5, vI s4, vI s3, vR s2, vR s1, vR s0]) E lk_P_77 rfl rfl im_Wo_init hr111 (C_Wo_init (xl X) X.1 s8 s9 s10 μ _ _ hc111) rfl rfl (by rw [hR]; decide) (by rw [hR]; decide) (Nat.le_of_ble_eq_true rfl) dP_condition_111 ?_
  obtain ⟨u114, hr114, h⟩ := b1S h
  obtain ⟨x114, m114, hc114, h⟩ := b2S h
  refine wm_cI (ci := 1) (As := [vI s3, vI s4, vI s5, vI s6, vR s7]) (st := [vR s1, vR s0]) E lk_P_80 rfl rfl im_Cn_init hr114 (C_Cn_init (xl X) X.1 s2 s3 s4 s5 s6 s7 m111 _ _ hc114) rfl rfl (by rw [hR]; decide) (by rw [hR]; decide) (Nat.le_of_ble_eq_true rfl) dP_condition_114 ?_
  obtain ⟨u117, hr117, h⟩ := b1S h
  obtain ⟨x117, m117, hc117, h⟩ := b2S h
  refine wm_cV (ci := 0) (As := [vR s1]) (st := []) E lk_P_112 rfl im_Al_add sl_Al_add hr117 (C_Al_add (xl X) X.1 s0 s1 m114 _ _ hc117) rfl rfl (by rw [hR]; decide) (by rw [hR]; decide) (Nat.le_of_ble_eq_true rfl) dP_condition_117 ?_
  refine wm_pop E dP_condition_120 rfl ?_
  refine wm_iload E dP_condition_121 (j := 1) rfl ?_
  refine wm_if_eq (tgt := 131) E dP_condition_123 (by decide) (fun c123 => ?_) (fun c123 => ?_)
  · have h := (if_pos c123).symm.trans h
    refine wm_pick (lv' := [(0, vR v0)]) [0] rfl ?_
    exact w_P_condition_131 E hQ hR hI v0 m117 h
  · have h := (if_neg c123).symm.trans h
    refine wm_aload_n E dP_condition_126 rfl (j := 0) rfl ?_
    refine wm_iconst (x := 0) E dP_condition_127 (by decide) ?_
    refine wm_pI E fp_P_40 (fun q => by cases q) h dP_condition_128 (fun m128 h => ?_)
    refine wm_pick (lv' := [(0, vR v0)]) [0] rfl ?_
    exact w_P_condition_131 E hQ hR hI v0 m128 h
def B_P_condition_56  (v0 : Option Nat) (v1 : Int32) (v2 : Int32) (v3 : Int32) (v4 : Int32) (v5 : Int32) (μ : Mem) : Option ((Nat ⊕ Int32) × Mem) := b1 (gR μ v0 11 7) (fun x57 => b1 (rc μ x57 0) (fun _ => b1 (S_Al_size x57 μ) (fun x60 => if x60 < 5 then b1 (gR μ v0 11 7) (fun x78 => b2 (nO μ 1 [.int 0, .int 0, .int 0, .int 0, .null]) (fun x81 m81 => b2 (nO m81 10 [.null, .int 0]) (fun x90 m90 => b1 (gR m90 v0 11 5) (fun x95 => if v5 = 0 then B_P_condition_111 v0 v5 x78 x81 x81 v1 v2 v3 v4 x90 x90 x95 0 m90 else b1 (gI m90 v0 11 6) (fun x104 => B_P_condition_111 v0 v5 x78 x81 x81 v1 v2 v3 v4 x90 x90 x95 x104 m90))))) else some (.inl 1, μ))))
set_option maxHeartbeats 4000000 in
set_option maxRecDepth 100000 in
theorem w_P_condition_56 {X : CX} (E : EV X prog_1_method_10_code 6 "PlaceFinder" (some .int)) {μ0 μ' : Mem} {r : (Nat ⊕ Int32)} (hQ : RQ2 X 4 50 μ0 (cvI r) μ') (hR : xR X = { frames := 7, cells := 4, slots := 50, locals := 191 }) (hI : X.2.2.2.2.2.2.2.2.2.2.2.1.name = "condition")  (v0 : Option Nat) (v1 : Int32) (v2 : Int32) (v3 : Int32) (v4 : Int32) (v5 : Int32) (μ : Mem) (h : B_P_condition_56  v0 v1 v2 v3 v4 v5 μ = some (r, μ')) : WM X 6 56 [(0, vR v0), (1, vI v1), (2, vI v2), (3, vI v3), (4, vI v4), (5, vI v5)] [] 0 0 μ := by
  have h : (b1 (gR μ v0 11 7) (fun x57 => b1 (rc μ x57 0) (fun _ => b1 (S_Al_size x57 μ) (fun x60 => if x60 < 5 then b1 (gR μ v0 11 7) (fun x78 => b2 (nO μ 1 [.int 0, .int 0, .int 0, .int 0, .null]) (fun x81 m81 => b2 (nO m81 10 [.null, .int 0]) (fun x90 m90 => b1 (gR m90 v0 11 5) (fun x95 => if v5 = 0 then B_P_condition_111 v0 v5 x78 x81 x81 v1 v2 v3 v4 x90 x90 x95 0 m90 else b1 (gI m90 v0 11 6) (fun x104 => B_P_condition_111 v0 v5 x78 x81 x81 v1 v2 v3 v4 x90 x90 x95 x104 m90))))) else some (.inl 1, μ))))) = some (r, μ') := h
  refine wm_aload_n E dP_condition_56 rfl (j := 0) rfl ?_
  refine wm_gR E fd_P_43 h dP_condition_57 (fun x57 h => ?_)
  obtain ⟨u60, hr60, h⟩ := b1S h
  obtain ⟨x60, hc60, h⟩ := b1S h
  refine wm_cV (ci := 0) (As := []) (st := []) E lk_P_98 rfl im_Al_size sl_Al_size hr60 (C_Al_size (xl X) X.1 x57 μ _ hc60) rfl rfl (by rw [hR]; decide) (by rw [hR]; decide) (Nat.le_of_ble_eq_true rfl) dP_condition_60 ?_
  refine wm_iconst (x := 5) E dP_condition_63 (by decide) ?_
  refine wm_icmp_lt (tgt := 77) E dP_condition_64 (by decide) (fun c64 => ?_) (fun c64 => ?_)
  · have h := (if_pos c64).symm.trans h
    refine wm_aload_n E dP_condition_77 rfl (j := 0) rfl ?_
    refine wm_gR E fd_P_43 h dP_condition_78 (fun x78 h => ?_)
    refine wm_new E nd_P_73 h (by rw [hR]; decide) (by rw [hR]; decide) dP_condition_81 (fun x81 m81 h => ?_)
    refine wm_dup E dP_condition_84 rfl ?_
    refine wm_iload_n E dP_condition_85 rfl (j := 1) rfl ?_
    refine wm_iload_n E dP_condition_86 rfl (j := 2) rfl ?_
    refine wm_iload_n E dP_condition_87 rfl (j := 3) rfl ?_
    refine wm_iload E dP_condition_88 (j := 4) rfl ?_
    refine wm_new E nd_P_75 h (by rw [hR]; decide) (by rw [hR]; decide) dP_condition_90 (fun x90 m90 h => ?_)
    refine wm_dup E dP_condition_93 rfl ?_
    refine wm_aload_n E dP_condition_94 rfl (j := 0) rfl ?_
    refine wm_gR E fd_P_36 h dP_condition_95 (fun x95 h => ?_)
    refine wm_iload E dP_condition_98 (j := 5) rfl ?_
    refine wm_if_eq (tgt := 110) E dP_condition_100 (by decide) (fun c100 => ?_) (fun c100 => ?_)
    · have h := (if_pos c100).symm.trans h
      refine wm_iconst (x := 0) E dP_condition_110 (by decide) ?_
      refine wm_pick (lv' := [(0, vR v0), (5, vI v5)]) [0, 5] rfl ?_
      exact w_P_condition_111 E hQ hR hI v0 v5 x78 x81 x81 v1 v2 v3 v4 x90 x90 x95 0 m90 h
    · have h := (if_neg c100).symm.trans h
      refine wm_aload_n E dP_condition_103 rfl (j := 0) rfl ?_
      refine wm_gI E fd_P_40 h dP_condition_104 (fun x104 h => ?_)
      refine wm_goto (tgt := 111) E dP_condition_107 (by decide) ?_
      refine wm_pick (lv' := [(0, vR v0), (5, vI v5)]) [0, 5] rfl ?_
      exact w_P_condition_111 E hQ hR hI v0 v5 x78 x81 x81 v1 v2 v3 v4 x90 x90 x95 x104 m90 h
  · have h := (if_neg c64).symm.trans h
    obtain ⟨μs, hX⟩ := rqXI hQ h
    exact wm_throw (ln := 2) (names := exU) (cls := "java/lang/IllegalStateException") E tf_P_102_206 hX ⟨(by rw [hR]; decide), by decide⟩ ⟨(by rw [hR]; decide), by decide⟩ (by rw [hR]; decide) (by rw [hR]; decide) (Nat.le_of_ble_eq_true rfl) dP_condition_67 dP_condition_70 (Or.inl ⟨rfl, dP_condition_71⟩) dP_condition_73 dP_condition_76
def B_P_condition_32  (v0 : Option Nat) (v1 : Int32) (v2 : Int32) (v3 : Int32) (v4 : Int32) (s0 : Int32) (μ : Mem) : Option ((Nat ⊕ Int32) × Mem) := if s0 = 0 then B_P_condition_56 v0 v1 v2 v3 v4 s0 μ else b1 (gI μ v0 11 6) (fun x40 => if x40 = 0 then some (.inl 0, μ) else B_P_condition_56 v0 v1 v2 v3 v4 s0 μ)
set_option maxHeartbeats 4000000 in
set_option maxRecDepth 100000 in
theorem w_P_condition_32 {X : CX} (E : EV X prog_1_method_10_code 6 "PlaceFinder" (some .int)) {μ0 μ' : Mem} {r : (Nat ⊕ Int32)} (hQ : RQ2 X 4 50 μ0 (cvI r) μ') (hR : xR X = { frames := 7, cells := 4, slots := 50, locals := 191 }) (hI : X.2.2.2.2.2.2.2.2.2.2.2.1.name = "condition")  (v0 : Option Nat) (v1 : Int32) (v2 : Int32) (v3 : Int32) (v4 : Int32) (s0 : Int32) (μ : Mem) (h : B_P_condition_32  v0 v1 v2 v3 v4 s0 μ = some (r, μ')) : WM X 6 32 [(0, vR v0), (1, vI v1), (2, vI v2), (3, vI v3), (4, vI v4)] [vI s0] 0 0 μ := by
  have h : (if s0 = 0 then B_P_condition_56 v0 v1 v2 v3 v4 s0 μ else b1 (gI μ v0 11 6) (fun x40 => if x40 = 0 then some (.inl 0, μ) else B_P_condition_56 v0 v1 v2 v3 v4 s0 μ)) = some (r, μ') := h
  refine wm_istore (lv' := [(5, vI s0), (0, vR v0), (1, vI v1), (2, vI v2), (3, vI v3), (4, vI v4)]) E dP_condition_32 (by decide) rfl ?_
  refine wm_iload E dP_condition_34 (j := 0) rfl ?_
  refine wm_if_eq (tgt := 56) E dP_condition_36 (by decide) (fun c36 => ?_) (fun c36 => ?_)
  · have h := (if_pos c36).symm.trans h
    refine wm_pick (lv' := [(0, vR v0), (1, vI v1), (2, vI v2), (3, vI v3), (4, vI v4), (5, vI s0)]) [1, 2, 3, 4, 5, 0] rfl ?_
    exact w_P_condition_56 E hQ hR hI v0 v1 v2 v3 v4 s0 μ h
  · have h := (if_neg c36).symm.trans h
    refine wm_aload_n E dP_condition_39 rfl (j := 1) rfl ?_
    refine wm_gI E fd_P_40 h dP_condition_40 (fun x40 h => ?_)
    refine wm_if_ne (tgt := 56) E dP_condition_43 (by decide) (fun c43 => ?_) (fun c43 => ?_)
    · have h := (if_neg c43).symm.trans h
      refine wm_pick (lv' := [(0, vR v0), (1, vI v1), (2, vI v2), (3, vI v3), (4, vI v4), (5, vI s0)]) [1, 2, 3, 4, 5, 0] rfl ?_
      exact w_P_condition_56 E hQ hR hI v0 v1 v2 v3 v4 s0 μ h
    · have h := (if_pos c43).symm.trans h
      obtain ⟨μs, hX⟩ := rqXI hQ h
      exact wm_throw (ln := 2) (names := exU) (cls := "java/lang/IllegalArgumentException") E tf_P_91_204 hX ⟨(by rw [hR]; decide), by decide⟩ ⟨(by rw [hR]; decide), by decide⟩ (by rw [hR]; decide) (by rw [hR]; decide) (Nat.le_of_ble_eq_true rfl) dP_condition_46 dP_condition_49 (Or.inl ⟨rfl, dP_condition_50⟩) dP_condition_52 dP_condition_55
def S_P_condition (v0 : Option Nat) (v1 : Int32) (v2 : Int32) (v3 : Int32) (v4 : Int32) (μ : Mem) : Option ((Nat ⊕ Int32) × Mem) := b1 (rc μ v0 11) (fun _ => b1 (S_P_areCondition v0 v1 v2 v3 v4 μ) (fun x6 => if x6 = 0 then some (.inl 0, μ) else if 3 < v1 then B_P_condition_32 v0 v1 v2 v3 v4 0 μ else B_P_condition_32 v0 v1 v2 v3 v4 1 μ))
set_option maxHeartbeats 4000000 in
set_option maxRecDepth 100000 in
theorem w_P_condition_e {X : CX} (E : EV X prog_1_method_10_code 6 "PlaceFinder" (some .int)) {μ0 μ' : Mem} {r : (Nat ⊕ Int32)} (hQ : RQ2 X 4 50 μ0 (cvI r) μ') (hR : xR X = { frames := 7, cells := 4, slots := 50, locals := 191 }) (hI : X.2.2.2.2.2.2.2.2.2.2.2.1.name = "condition") (v0 : Option Nat) (v1 : Int32) (v2 : Int32) (v3 : Int32) (v4 : Int32) (μ : Mem) (h : S_P_condition v0 v1 v2 v3 v4 μ = some (r, μ')) : WM X 6 0 [(0, vR v0), (1, vI v1), (2, vI v2), (3, vI v3), (4, vI v4)] [] 0 0 μ := by
  have h : (b1 (rc μ v0 11) (fun _ => b1 (S_P_areCondition v0 v1 v2 v3 v4 μ) (fun x6 => if x6 = 0 then some (.inl 0, μ) else if 3 < v1 then B_P_condition_32 v0 v1 v2 v3 v4 0 μ else B_P_condition_32 v0 v1 v2 v3 v4 1 μ))) = some (r, μ') := h
  refine wm_aload_n E dP_condition_0 rfl (j := 0) rfl ?_
  refine wm_iload_n E dP_condition_1 rfl (j := 1) rfl ?_
  refine wm_iload_n E dP_condition_2 rfl (j := 2) rfl ?_
  refine wm_iload_n E dP_condition_3 rfl (j := 3) rfl ?_
  refine wm_iload E dP_condition_4 (j := 4) rfl ?_
  obtain ⟨u6, hr6, h⟩ := b1S h
  obtain ⟨x6, hc6, h⟩ := b1S h
  refine wm_cV (ci := 11) (As := [vI v1, vI v2, vI v3, vI v4]) (st := []) E lk_P_198 rfl im_P_areCondition sl_P_areCondition hr6 (C_P_areCondition (xl X) X.1 v0 v1 v2 v3 v4 μ _ hc6) rfl rfl (by rw [hR]; decide) (by rw [hR]; decide) (Nat.le_of_ble_eq_true rfl) dP_condition_6 ?_
  refine wm_if_ne (tgt := 22) E dP_condition_9 (by decide) (fun c9 => ?_) (fun c9 => ?_)
  · have h := (if_neg c9).symm.trans h
    refine wm_iload_n E dP_condition_22 rfl (j := 1) rfl ?_
    refine wm_iconst (x := 3) E dP_condition_23 (by decide) ?_
    refine wm_icmp_gt (tgt := 31) E dP_condition_24 (by decide) (fun c24 => ?_) (fun c24 => ?_)
    · have h := (if_pos c24).symm.trans h
      refine wm_iconst (x := 0) E dP_condition_31 (by decide) ?_
      refine wm_pick (lv' := [(0, vR v0), (1, vI v1), (2, vI v2), (3, vI v3), (4, vI v4)]) [0, 1, 2, 3, 4] rfl ?_
      exact w_P_condition_32 E hQ hR hI v0 v1 v2 v3 v4 0 μ h
    · have h := (if_neg c24).symm.trans h
      refine wm_iconst (x := 1) E dP_condition_27 (by decide) ?_
      refine wm_goto (tgt := 32) E dP_condition_28 (by decide) ?_
      refine wm_pick (lv' := [(0, vR v0), (1, vI v1), (2, vI v2), (3, vI v3), (4, vI v4)]) [0, 1, 2, 3, 4] rfl ?_
      exact w_P_condition_32 E hQ hR hI v0 v1 v2 v3 v4 1 μ h
  · have h := (if_pos c9).symm.trans h
    obtain ⟨μs, hX⟩ := rqXI hQ h
    exact wm_throw (ln := 2) (names := exU) (cls := "java/lang/IllegalArgumentException") E tf_P_91_202 hX ⟨(by rw [hR]; decide), by decide⟩ ⟨(by rw [hR]; decide), by decide⟩ (by rw [hR]; decide) (by rw [hR]; decide) (Nat.le_of_ble_eq_true rfl) dP_condition_12 dP_condition_15 (Or.inl ⟨rfl, dP_condition_16⟩) dP_condition_18 dP_condition_21
theorem C_P_condition (l : Launch) (G : GG) (v0 : Option Nat) (v1 : Int32) (v2 : Int32) (v3 : Int32) (v4 : Int32) (μ μ' : Mem) (r : Int32) (h : S_P_condition v0 v1 v2 v3 v4 μ = some (.inr r, μ')) : CT l G y_P_condition prog_1_method_10_code 6 (some .int) 7 4 50 191 μ [vR v0, vI v1, vI v2, vI v3, vI v4] (some (vI r)) μ' := by
  refine wm_met (lv := [(0, vR v0), (1, vI v1), (2, vI v2), (3, vI v3), (4, vI v4)]) (by decide +kernel) (Nat.le_of_ble_eq_true rfl) rfl (fun X E hQ hR hI => ?_)
  exact w_P_condition_e (r := .inr r) E hQ hR hI v0 v1 v2 v3 v4 μ h
theorem X_P_condition (l : Launch) (hl : LF l) (G : GG) (v0 : Option Nat) (v1 : Int32) (v2 : Int32) (v3 : Int32) (v4 : Int32) (μ μ' : Mem) (k : Nat) (h : S_P_condition v0 v1 v2 v3 v4 (m_up μ) = some (.inl k, μ')) : CZ l G y_P_condition prog_1_method_10_code 6 (some .int) 7 4 50 191 μ [vR v0, vI v1, vI v2, vI v3, vI v4] (exN k) := by
  refine wm_metX hl (lv := [(0, vR v0), (1, vI v1), (2, vI v2), (3, vI v3), (4, vI v4)]) (by decide +kernel) (Nat.le_of_ble_eq_true rfl) rfl (fun X E hX hR hI => ?_)
  exact w_P_condition_e (μ0 := μ) (r := .inl k) E ⟨μ, hX⟩ hR hI v0 v1 v2 v3 v4 (m_up μ) h
def B_Al_clear_27  : Nat → Option Nat → Int32 → Int32 → Mem → Option (Unit × Mem)
  | 0, _, _, _, _ => none
  | n + 1, v1, v2, v3, μ => if v2 ≤ v3 then some ((), μ) else b1 (sR μ v1 4 [] v3 none) (fun m35 => (fun v1 v2 v3 μ => B_Al_clear_27 n v1 v2 v3 μ) v1 v2 (v3 + 1) m35)
set_option maxHeartbeats 4000000 in
set_option maxRecDepth 100000 in
theorem w_Al_clear_27 {X : CX} (E : EV X prog_33_method_40_code 4 "java/util/ArrayList" none) {μ0 μ' : Mem} {r : Unit} (hQ : RQ X 0 0 μ0 none μ') (hR : xR X = { frames := 0, cells := 0, slots := 0, locals := 0 }) (hI : X.2.2.2.2.2.2.2.2.2.2.2.1.name = "clear")  (n : Nat) : ∀ (v1 : Option Nat) (v2 : Int32) (v3 : Int32) (μ : Mem) (h : B_Al_clear_27  n v1 v2 v3 μ = some (r, μ')), WM X 4 27 [(1, vR v1), (2, vI v2), (3, vI v3)] [] 0 0 μ := by
  induction n with
  | zero => intro v1 v2 v3 μ h; cases h
  | succ n ih =>
    intro v1 v2 v3 μ h
    have h : (if v2 ≤ v3 then some ((), μ) else b1 (sR μ v1 4 [] v3 none) (fun m35 => (fun v1 v2 v3 μ => B_Al_clear_27 n v1 v2 v3 μ) v1 v2 (v3 + 1) m35)) = some (r, μ') := h
    refine wm_iload_n E dAl_clear_27 rfl (j := 2) rfl ?_
    refine wm_iload_n E dAl_clear_28 rfl (j := 1) rfl ?_
    refine wm_icmp_ge (tgt := 42) E dAl_clear_29 (by decide) (fun c29 => ?_) (fun c29 => ?_)
    · have h := (if_pos c29).symm.trans h
      exact wm_vret E hQ rfl (rtM h) (by decide) (by decide) dAl_clear_42
    · have h := (if_neg c29).symm.trans h
      refine wm_aload_n E dAl_clear_32 rfl (j := 0) rfl ?_
      refine wm_iload_n E dAl_clear_33 rfl (j := 2) rfl ?_
      refine wm_null E dAl_clear_34 ?_
      refine wm_aast (t := 4) (cs := []) E rfl as_Al_clear_35 h dAl_clear_35 (fun m35 h => ?_)
      refine wm_iinc (lv' := [(3, vI (v3 + 1)), (1, vR v1), (2, vI v2)]) (d := 1) E dAl_clear_36 (by decide) (j := 2) rfl (by decide) rfl ?_
      refine wm_goto (tgt := 27) E dAl_clear_39 (by decide) ?_
      refine wm_pick (lv' := [(1, vR v1), (2, vI v2), (3, vI (v3 + 1))]) [1, 2, 0] rfl ?_
      exact ih v1 v2 (v3 + 1) m35 h
def S_Al_clear (v0 : Option Nat) (μ : Mem) : Option (Unit × Mem) := b1 (gI μ v0 0 2) (fun x2 => b1 (pV μ v0 0 2 (vI (x2 + 1))) (fun m7 => b1 (gR m7 v0 0 0) (fun x11 => b1 (gI m7 v0 0 1) (fun x16 => b1 (pV m7 v0 0 1 (vI 0)) (fun m23 => B_Al_clear_27 fu x11 x16 0 m23)))))
set_option maxHeartbeats 4000000 in
set_option maxRecDepth 100000 in
theorem C_Al_clear (l : Launch) (G : GG) (v0 : Option Nat) (μ μ' : Mem) (r : Unit) (h : S_Al_clear v0 μ = some (r, μ')) : CT l G y_Al_clear prog_33_method_40_code 4 none 0 0 0 0 μ [vR v0] none μ' := by
  refine wm_met (lv := [(0, vR v0)]) (by decide +kernel) (Nat.le_of_ble_eq_true rfl) rfl (fun X E hQ hR hI => ?_)
  have h : (b1 (gI μ v0 0 2) (fun x2 => b1 (pV μ v0 0 2 (vI (x2 + 1))) (fun m7 => b1 (gR m7 v0 0 0) (fun x11 => b1 (gI m7 v0 0 1) (fun x16 => b1 (pV m7 v0 0 1 (vI 0)) (fun m23 => B_Al_clear_27 fu x11 x16 0 m23)))))) = some (r, μ') := h
  refine wm_aload_n E dAl_clear_0 rfl (j := 0) rfl ?_
  refine wm_dup E dAl_clear_1 rfl ?_
  refine wm_gI E fd_Al_63 h dAl_clear_2 (fun x2 h => ?_)
  refine wm_iconst (x := 1) E dAl_clear_5 (by decide) ?_
  refine wm_iadd E dAl_clear_6 ?_
  refine wm_pI E fp_Al_63 (fun q => by cases q) h dAl_clear_7 (fun m7 h => ?_)
  refine wm_aload_n E dAl_clear_10 rfl (j := 0) rfl ?_
  refine wm_gR E fd_Al_9 h dAl_clear_11 (fun x11 h => ?_)
  refine wm_astore_n (lv' := [(1, vR x11), (0, vR v0)]) E dAl_clear_14 rfl (by decide) rfl ?_
  refine wm_aload_n E dAl_clear_15 rfl (j := 1) rfl ?_
  refine wm_gI E fd_Al_48 h dAl_clear_16 (fun x16 h => ?_)
  refine wm_istore_n (lv' := [(2, vI x16), (1, vR x11), (0, vR v0)]) E dAl_clear_19 rfl (by decide) rfl ?_
  refine wm_aload_n E dAl_clear_20 rfl (j := 2) rfl ?_
  refine wm_iconst (x := 0) E dAl_clear_21 (by decide) ?_
  refine wm_dup_x1 E dAl_clear_22 rfl rfl ?_
  refine wm_pI E fp_Al_48 (fun q => by cases q) h dAl_clear_23 (fun m23 h => ?_)
  refine wm_istore_n (lv' := [(3, vI 0), (2, vI x16), (1, vR x11), (0, vR v0)]) E dAl_clear_26 rfl (by decide) rfl ?_
  refine wm_pick (lv' := [(1, vR x11), (2, vI x16), (3, vI 0)]) [2, 1, 0] rfl ?_
  exact w_Al_clear_27 E hQ hR hI fu x11 x16 0 m23 h
def S_P_clear (v0 : Option Nat) (μ : Mem) : Option (Unit × Mem) := b1 (gR μ v0 11 7) (fun x1 => b1 (rc μ x1 0) (fun _ => b2 (S_Al_clear x1 μ) (fun x4 m4 => some ((), m4))))
set_option maxHeartbeats 4000000 in
set_option maxRecDepth 100000 in
theorem C_P_clear (l : Launch) (G : GG) (v0 : Option Nat) (μ μ' : Mem) (r : Unit) (h : S_P_clear v0 μ = some (r, μ')) : CT l G y_P_clear prog_1_method_11_code 1 none 1 0 0 23 μ [vR v0] none μ' := by
  refine wm_met (lv := [(0, vR v0)]) (by decide +kernel) (Nat.le_of_ble_eq_true rfl) rfl (fun X E hQ hR hI => ?_)
  have h : (b1 (gR μ v0 11 7) (fun x1 => b1 (rc μ x1 0) (fun _ => b2 (S_Al_clear x1 μ) (fun x4 m4 => some ((), m4))))) = some (r, μ') := h
  refine wm_aload_n E dP_clear_0 rfl (j := 0) rfl ?_
  refine wm_gR E fd_P_43 h dP_clear_1 (fun x1 h => ?_)
  obtain ⟨u4, hr4, h⟩ := b1S h
  obtain ⟨x4, m4, hc4, h⟩ := b2S h
  refine wm_cV (ci := 0) (As := []) (st := []) E lk_P_208 rfl im_Al_clear sl_Al_clear hr4 (C_Al_clear (xl X) X.1 x1 μ _ _ hc4) rfl rfl (by rw [hR]; decide) (by rw [hR]; decide) (Nat.le_of_ble_eq_true rfl) dP_clear_4 ?_
  exact wm_vret E hQ rfl (rtM h) (by decide) (by decide) dP_clear_7
def B_P_firstNameCondition_2 (μ : Mem)   : Nat → Option Nat → Int32 → Option (Option Nat)
  | 0, _, _ => none
  | n + 1, v0, v1 => b1 (gR μ v0 11 7) (fun x4 => b1 (rc μ x4 0) (fun _ => b1 (S_Al_size x4 μ) (fun x7 => if x7 ≤ v1 then b1 (gR μ v0 11 12) (fun x50 => some (x50)) else b1 (gR μ v0 11 7) (fun x14 => b1 (rc μ x14 0) (fun _ => b1 (S_Al_get x14 v1 μ) (fun x18 => b1 (cK μ x18 1) (fun _ => b1 (gI μ x18 1 0) (fun x24 => if 3 < x24 then (fun v0 v1 => B_P_firstNameCondition_2 μ n v0 v1) v0 (v1 + 1) else b1 (gR μ v0 11 7) (fun x32 => b1 (rc μ x32 0) (fun _ => b1 (S_Al_get x32 v1 μ) (fun x36 => b1 (cK μ x36 1) (fun _ => some (x36)))))))))))))
set_option maxHeartbeats 4000000 in
set_option maxRecDepth 100000 in
theorem w_P_firstNameCondition_2 {X : CX} (E : EV X prog_1_method_37_code 2 "PlaceFinder" (some (.object "PlaceFinder$Condition"))) {μ0 μ : Mem} {r : Option Nat} (hQ : RQ X 0 0 μ0 (some (vR r)) μ) (hR : xR X = { frames := 3, cells := 0, slots := 0, locals := 64 }) (hI : X.2.2.2.2.2.2.2.2.2.2.2.1.name = "firstNameCondition")  (n : Nat) : ∀ (v0 : Option Nat) (v1 : Int32) (h : B_P_firstNameCondition_2 μ  n v0 v1 = some r), WM X 2 2 [(0, vR v0), (1, vI v1)] [] 0 0 μ := by
  induction n with
  | zero => intro v0 v1 h; cases h
  | succ n ih =>
    intro v0 v1 h
    have h : (b1 (gR μ v0 11 7) (fun x4 => b1 (rc μ x4 0) (fun _ => b1 (S_Al_size x4 μ) (fun x7 => if x7 ≤ v1 then b1 (gR μ v0 11 12) (fun x50 => some (x50)) else b1 (gR μ v0 11 7) (fun x14 => b1 (rc μ x14 0) (fun _ => b1 (S_Al_get x14 v1 μ) (fun x18 => b1 (cK μ x18 1) (fun _ => b1 (gI μ x18 1 0) (fun x24 => if 3 < x24 then (fun v0 v1 => B_P_firstNameCondition_2 μ n v0 v1) v0 (v1 + 1) else b1 (gR μ v0 11 7) (fun x32 => b1 (rc μ x32 0) (fun _ => b1 (S_Al_get x32 v1 μ) (fun x36 => b1 (cK μ x36 1) (fun _ => some (x36)))))))))))))) = some r := h
    refine wm_iload_n E dP_firstNameCondition_2 rfl (j := 1) rfl ?_
    refine wm_aload_n E dP_firstNameCondition_3 rfl (j := 0) rfl ?_
    refine wm_gR E fd_P_43 h dP_firstNameCondition_4 (fun x4 h => ?_)
    obtain ⟨u7, hr7, h⟩ := b1S h
    obtain ⟨x7, hc7, h⟩ := b1S h
    refine wm_cV (ci := 0) (As := []) (st := [vI v1]) E lk_P_98 rfl im_Al_size sl_Al_size hr7 (C_Al_size (xl X) X.1 x4 μ _ hc7) rfl rfl (by rw [hR]; decide) (by rw [hR]; decide) (Nat.le_of_ble_eq_true rfl) dP_firstNameCondition_7 ?_
    refine wm_icmp_ge (tgt := 49) E dP_firstNameCondition_10 (by decide) (fun c10 => ?_) (fun c10 => ?_)
    · have h := (if_pos c10).symm.trans h
      refine wm_aload_n E dP_firstNameCondition_49 rfl (j := 0) rfl ?_
      refine wm_gR E fd_P_83 h dP_firstNameCondition_50 (fun x50 h => ?_)
      exact wm_aret E hQ (rqR0 h) rfl (Or.inl ⟨_, rfl⟩) (by decide) (by decide) dP_firstNameCondition_53
    · have h := (if_neg c10).symm.trans h
      refine wm_aload_n E dP_firstNameCondition_13 rfl (j := 0) rfl ?_
      refine wm_gR E fd_P_43 h dP_firstNameCondition_14 (fun x14 h => ?_)
      refine wm_iload_n E dP_firstNameCondition_17 rfl (j := 1) rfl ?_
      obtain ⟨u18, hr18, h⟩ := b1S h
      obtain ⟨x18, hc18, h⟩ := b1S h
      refine wm_cV (ci := 0) (As := [vI v1]) (st := []) E lk_P_223 rfl im_Al_get sl_Al_get hr18 (C_Al_get (xl X) X.1 x14 v1 μ _ hc18) rfl rfl (by rw [hR]; decide) (by rw [hR]; decide) (Nat.le_of_ble_eq_true rfl) dP_firstNameCondition_18 ?_
      refine wm_ckc (ci := 1) E rfl cl_P_73 h dP_firstNameCondition_21 (fun h => ?_)
      refine wm_gI E fd_P_352 h dP_firstNameCondition_24 (fun x24 h => ?_)
      refine wm_iconst (x := 3) E dP_firstNameCondition_27 (by decide) ?_
      refine wm_icmp_gt (tgt := 43) E dP_firstNameCondition_28 (by decide) (fun c28 => ?_) (fun c28 => ?_)
      · have h := (if_pos c28).symm.trans h
        refine wm_iinc (lv' := [(1, vI (v1 + 1)), (0, vR v0)]) (d := 1) E dP_firstNameCondition_43 (by decide) (j := 1) rfl (by decide) rfl ?_
        refine wm_goto (tgt := 2) E dP_firstNameCondition_46 (by decide) ?_
        refine wm_pick (lv' := [(0, vR v0), (1, vI (v1 + 1))]) [1, 0] rfl ?_
        exact ih v0 (v1 + 1) h
      · have h := (if_neg c28).symm.trans h
        refine wm_aload_n E dP_firstNameCondition_31 rfl (j := 0) rfl ?_
        refine wm_gR E fd_P_43 h dP_firstNameCondition_32 (fun x32 h => ?_)
        refine wm_iload_n E dP_firstNameCondition_35 rfl (j := 1) rfl ?_
        obtain ⟨u36, hr36, h⟩ := b1S h
        obtain ⟨x36, hc36, h⟩ := b1S h
        refine wm_cV (ci := 0) (As := [vI v1]) (st := []) E lk_P_223 rfl im_Al_get sl_Al_get hr36 (C_Al_get (xl X) X.1 x32 v1 μ _ hc36) rfl rfl (by rw [hR]; decide) (by rw [hR]; decide) (Nat.le_of_ble_eq_true rfl) dP_firstNameCondition_36 ?_
        refine wm_ckc (ci := 1) E rfl cl_P_73 h dP_firstNameCondition_39 (fun h => ?_)
        exact wm_aret E hQ (rqR0 h) rfl (Or.inl ⟨_, rfl⟩) (by decide) (by decide) dP_firstNameCondition_42
def S_P_firstNameCondition (v0 : Option Nat) (μ : Mem) : Option (Option Nat) := B_P_firstNameCondition_2 μ fu v0 0
set_option maxHeartbeats 4000000 in
set_option maxRecDepth 100000 in
theorem C_P_firstNameCondition (l : Launch) (G : GG) (v0 : Option Nat) (μ : Mem) (r : Option Nat) (h : S_P_firstNameCondition v0 μ = some r) : CT l G y_P_firstNameCondition prog_1_method_37_code 2 (some (.object "PlaceFinder$Condition")) 3 0 0 64 μ [vR v0] (some (vR r)) μ := by
  refine wm_met (lv := [(0, vR v0)]) (by decide +kernel) (Nat.le_of_ble_eq_true rfl) rfl (fun X E hQ hR hI => ?_)
  have h : (B_P_firstNameCondition_2 μ fu v0 0) = some r := h
  refine wm_iconst (x := 0) E dP_firstNameCondition_0 (by decide) ?_
  refine wm_istore_n (lv' := [(1, vI 0), (0, vR v0)]) E dP_firstNameCondition_1 rfl (by decide) rfl ?_
  refine wm_pick (lv' := [(0, vR v0), (1, vI 0)]) [1, 0] rfl ?_
  exact w_P_firstNameCondition_2 E hQ hR hI fu v0 0 h
def B_P_firstAround_2 (μ : Mem)   : Nat → Option Nat → Int32 → Option (Option Nat)
  | 0, _, _ => none
  | n + 1, v0, v1 => b1 (gR μ v0 11 7) (fun x4 => b1 (rc μ x4 0) (fun _ => b1 (S_Al_size x4 μ) (fun x7 => if x7 ≤ v1 then some (none) else b1 (gR μ v0 11 7) (fun x14 => b1 (rc μ x14 0) (fun _ => b1 (S_Al_get x14 v1 μ) (fun x18 => b1 (cK μ x18 1) (fun _ => b1 (gI μ x18 1 0) (fun x24 => if x24 = 7 then b1 (gR μ v0 11 7) (fun x33 => b1 (rc μ x33 0) (fun _ => b1 (S_Al_get x33 v1 μ) (fun x37 => b1 (cK μ x37 1) (fun _ => some (x37))))) else (fun v0 v1 => B_P_firstAround_2 μ n v0 v1) v0 (v1 + 1)))))))))
set_option maxHeartbeats 4000000 in
set_option maxRecDepth 100000 in
theorem w_P_firstAround_2 {X : CX} (E : EV X prog_1_method_38_code 2 "PlaceFinder" (some (.object "PlaceFinder$Condition"))) {μ0 μ : Mem} {r : Option Nat} (hQ : RQ X 0 0 μ0 (some (vR r)) μ) (hR : xR X = { frames := 3, cells := 0, slots := 0, locals := 64 }) (hI : X.2.2.2.2.2.2.2.2.2.2.2.1.name = "firstAround")  (n : Nat) : ∀ (v0 : Option Nat) (v1 : Int32) (h : B_P_firstAround_2 μ  n v0 v1 = some r), WM X 2 2 [(0, vR v0), (1, vI v1)] [] 0 0 μ := by
  induction n with
  | zero => intro v0 v1 h; cases h
  | succ n ih =>
    intro v0 v1 h
    have h : (b1 (gR μ v0 11 7) (fun x4 => b1 (rc μ x4 0) (fun _ => b1 (S_Al_size x4 μ) (fun x7 => if x7 ≤ v1 then some (none) else b1 (gR μ v0 11 7) (fun x14 => b1 (rc μ x14 0) (fun _ => b1 (S_Al_get x14 v1 μ) (fun x18 => b1 (cK μ x18 1) (fun _ => b1 (gI μ x18 1 0) (fun x24 => if x24 = 7 then b1 (gR μ v0 11 7) (fun x33 => b1 (rc μ x33 0) (fun _ => b1 (S_Al_get x33 v1 μ) (fun x37 => b1 (cK μ x37 1) (fun _ => some (x37))))) else (fun v0 v1 => B_P_firstAround_2 μ n v0 v1) v0 (v1 + 1)))))))))) = some r := h
    refine wm_iload_n E dP_firstAround_2 rfl (j := 1) rfl ?_
    refine wm_aload_n E dP_firstAround_3 rfl (j := 0) rfl ?_
    refine wm_gR E fd_P_43 h dP_firstAround_4 (fun x4 h => ?_)
    obtain ⟨u7, hr7, h⟩ := b1S h
    obtain ⟨x7, hc7, h⟩ := b1S h
    refine wm_cV (ci := 0) (As := []) (st := [vI v1]) E lk_P_98 rfl im_Al_size sl_Al_size hr7 (C_Al_size (xl X) X.1 x4 μ _ hc7) rfl rfl (by rw [hR]; decide) (by rw [hR]; decide) (Nat.le_of_ble_eq_true rfl) dP_firstAround_7 ?_
    refine wm_icmp_ge (tgt := 50) E dP_firstAround_10 (by decide) (fun c10 => ?_) (fun c10 => ?_)
    · have h := (if_pos c10).symm.trans h
      refine wm_null E dP_firstAround_50 ?_
      exact wm_aret E hQ (rqR0 h) rfl (Or.inl ⟨_, rfl⟩) (by decide) (by decide) dP_firstAround_51
    · have h := (if_neg c10).symm.trans h
      refine wm_aload_n E dP_firstAround_13 rfl (j := 0) rfl ?_
      refine wm_gR E fd_P_43 h dP_firstAround_14 (fun x14 h => ?_)
      refine wm_iload_n E dP_firstAround_17 rfl (j := 1) rfl ?_
      obtain ⟨u18, hr18, h⟩ := b1S h
      obtain ⟨x18, hc18, h⟩ := b1S h
      refine wm_cV (ci := 0) (As := [vI v1]) (st := []) E lk_P_223 rfl im_Al_get sl_Al_get hr18 (C_Al_get (xl X) X.1 x14 v1 μ _ hc18) rfl rfl (by rw [hR]; decide) (by rw [hR]; decide) (Nat.le_of_ble_eq_true rfl) dP_firstAround_18 ?_
      refine wm_ckc (ci := 1) E rfl cl_P_73 h dP_firstAround_21 (fun h => ?_)
      refine wm_gI E fd_P_352 h dP_firstAround_24 (fun x24 h => ?_)
      refine wm_bipush (x := 7) E dP_firstAround_27 (by decide) ?_
      refine wm_icmp_ne (tgt := 44) E dP_firstAround_29 (by decide) (fun c29 => ?_) (fun c29 => ?_)
      · have h := (if_neg c29).symm.trans h
        refine wm_iinc (lv' := [(1, vI (v1 + 1)), (0, vR v0)]) (d := 1) E dP_firstAround_44 (by decide) (j := 1) rfl (by decide) rfl ?_
        refine wm_goto (tgt := 2) E dP_firstAround_47 (by decide) ?_
        refine wm_pick (lv' := [(0, vR v0), (1, vI (v1 + 1))]) [1, 0] rfl ?_
        exact ih v0 (v1 + 1) h
      · have h := (if_pos c29).symm.trans h
        refine wm_aload_n E dP_firstAround_32 rfl (j := 0) rfl ?_
        refine wm_gR E fd_P_43 h dP_firstAround_33 (fun x33 h => ?_)
        refine wm_iload_n E dP_firstAround_36 rfl (j := 1) rfl ?_
        obtain ⟨u37, hr37, h⟩ := b1S h
        obtain ⟨x37, hc37, h⟩ := b1S h
        refine wm_cV (ci := 0) (As := [vI v1]) (st := []) E lk_P_223 rfl im_Al_get sl_Al_get hr37 (C_Al_get (xl X) X.1 x33 v1 μ _ hc37) rfl rfl (by rw [hR]; decide) (by rw [hR]; decide) (Nat.le_of_ble_eq_true rfl) dP_firstAround_37 ?_
        refine wm_ckc (ci := 1) E rfl cl_P_73 h dP_firstAround_40 (fun h => ?_)
        exact wm_aret E hQ (rqR0 h) rfl (Or.inl ⟨_, rfl⟩) (by decide) (by decide) dP_firstAround_43
def S_P_firstAround (v0 : Option Nat) (μ : Mem) : Option (Option Nat) := B_P_firstAround_2 μ fu v0 0
set_option maxHeartbeats 4000000 in
set_option maxRecDepth 100000 in
theorem C_P_firstAround (l : Launch) (G : GG) (v0 : Option Nat) (μ : Mem) (r : Option Nat) (h : S_P_firstAround v0 μ = some r) : CT l G y_P_firstAround prog_1_method_38_code 2 (some (.object "PlaceFinder$Condition")) 3 0 0 64 μ [vR v0] (some (vR r)) μ := by
  refine wm_met (lv := [(0, vR v0)]) (by decide +kernel) (Nat.le_of_ble_eq_true rfl) rfl (fun X E hQ hR hI => ?_)
  have h : (B_P_firstAround_2 μ fu v0 0) = some r := h
  refine wm_iconst (x := 0) E dP_firstAround_0 (by decide) ?_
  refine wm_istore_n (lv' := [(1, vI 0), (0, vR v0)]) E dP_firstAround_1 rfl (by decide) rfl ?_
  refine wm_pick (lv' := [(0, vR v0), (1, vI 0)]) [1, 0] rfl ?_
  exact w_P_firstAround_2 E hQ hR hI fu v0 0 h
def S_Hi_empty (v0 : Option Nat) (μ : Mem) : Option (Unit × Mem) := b1 (pV μ v0 4 2 (vI 0)) (fun m2 => some ((), m2))
set_option maxHeartbeats 4000000 in
set_option maxRecDepth 100000 in
theorem C_Hi_empty (l : Launch) (G : GG) (v0 : Option Nat) (μ μ' : Mem) (r : Unit) (h : S_Hi_empty v0 μ = some (r, μ')) : CT l G y_Hi_empty prog_5_method_2_code 1 none 0 0 0 0 μ [vR v0] none μ' := by
  refine wm_met (lv := [(0, vR v0)]) (by decide +kernel) (Nat.le_of_ble_eq_true rfl) rfl (fun X E hQ hR hI => ?_)
  have h : (b1 (pV μ v0 4 2 (vI 0)) (fun m2 => some ((), m2))) = some (r, μ') := h
  refine wm_aload_n E dHi_empty_0 rfl (j := 0) rfl ?_
  refine wm_iconst (x := 0) E dHi_empty_1 (by decide) ?_
  refine wm_pI E fp_Hi_19 (fun q => by cases q) h dHi_empty_2 (fun m2 h => ?_)
  exact wm_vret E hQ rfl (rtM h) (by decide) (by decide) dHi_empty_5
def B_Pl_shapeOn_37 (μ : Mem)  (k4 : Option Nat → Int32 → Option Nat → Int32 → Option (Option Nat)) (v0 : Option Nat) (v1 : Int32) (v2 : Option Nat) (v3 : Int32) : Option (Option Nat) := k4 v0 v1 v2 (v3 + 1)
set_option maxHeartbeats 4000000 in
set_option maxRecDepth 100000 in
theorem w_Pl_shapeOn_37 {X : CX} (E : EV X prog_8_method_4_code 4 "PlaceFinder$Place" (some (.object "PlaceFinder$Corners"))) {μ0 μ : Mem} {r : Option Nat} (hQ : RQ X 0 0 μ0 (some (vR r)) μ) (hR : xR X = { frames := 3, cells := 0, slots := 0, locals := 64 }) (hI : X.2.2.2.2.2.2.2.2.2.2.2.1.name = "shapeOn") (k4 : Option Nat → Int32 → Option Nat → Int32 → Option (Option Nat)) (hk4 : ∀ (v0 : Option Nat) (v1 : Int32) (v2 : Option Nat) (v3 : Int32), k4 v0 v1 v2 v3 = some r → WM X 4 4 [(0, vR v0), (1, vI v1), (2, vR v2), (3, vI v3)] [] 0 0 μ) (v0 : Option Nat) (v1 : Int32) (v2 : Option Nat) (v3 : Int32) (h : B_Pl_shapeOn_37 μ k4 v0 v1 v2 v3 = some r) : WM X 4 37 [(0, vR v0), (1, vI v1), (2, vR v2), (3, vI v3)] [] 0 0 μ := by
  have h : (k4 v0 v1 v2 (v3 + 1)) = some r := h
  refine wm_iinc (lv' := [(3, vI (v3 + 1)), (0, vR v0), (1, vI v1), (2, vR v2)]) (d := 1) E dPl_shapeOn_37 (by decide) (j := 3) rfl (by decide) rfl ?_
  refine wm_goto (tgt := 4) E dPl_shapeOn_40 (by decide) ?_
  refine wm_pick (lv' := [(0, vR v0), (1, vI v1), (2, vR v2), (3, vI (v3 + 1))]) [1, 2, 3, 0] rfl ?_
  exact hk4 v0 v1 v2 (v3 + 1) h
def B_Pl_shapeOn_4 (μ : Mem)   : Nat → Option Nat → Int32 → Option Nat → Int32 → Option (Option Nat)
  | 0, _, _, _, _ => none
  | n + 1, v0, v1, v2, v3 => b1 (gR μ v0 7 3) (fun x6 => b1 (rc μ x6 0) (fun _ => b1 (S_Al_size x6 μ) (fun x9 => if x9 ≤ v3 then some (v2) else b1 (gR μ v0 7 4) (fun x16 => b1 (aI μ x16 0 v3) (fun x20 => if v1 < x20 then B_Pl_shapeOn_37 μ (fun v0 v1 v2 v3 => B_Pl_shapeOn_4 μ n v0 v1 v2 v3) v0 v1 v2 v3 else b1 (gR μ v0 7 3) (fun x26 => b1 (rc μ x26 0) (fun _ => b1 (S_Al_get x26 v3 μ) (fun x30 => b1 (cK μ x30 2) (fun _ => B_Pl_shapeOn_37 μ (fun v0 v1 v2 v3 => B_Pl_shapeOn_4 μ n v0 v1 v2 v3) v0 v1 x30 v3)))))))))
set_option maxHeartbeats 4000000 in
set_option maxRecDepth 100000 in
theorem w_Pl_shapeOn_4 {X : CX} (E : EV X prog_8_method_4_code 4 "PlaceFinder$Place" (some (.object "PlaceFinder$Corners"))) {μ0 μ : Mem} {r : Option Nat} (hQ : RQ X 0 0 μ0 (some (vR r)) μ) (hR : xR X = { frames := 3, cells := 0, slots := 0, locals := 64 }) (hI : X.2.2.2.2.2.2.2.2.2.2.2.1.name = "shapeOn")  (n : Nat) : ∀ (v0 : Option Nat) (v1 : Int32) (v2 : Option Nat) (v3 : Int32) (h : B_Pl_shapeOn_4 μ  n v0 v1 v2 v3 = some r), WM X 4 4 [(0, vR v0), (1, vI v1), (2, vR v2), (3, vI v3)] [] 0 0 μ := by
  induction n with
  | zero => intro v0 v1 v2 v3 h; cases h
  | succ n ih =>
    intro v0 v1 v2 v3 h
    have h : (b1 (gR μ v0 7 3) (fun x6 => b1 (rc μ x6 0) (fun _ => b1 (S_Al_size x6 μ) (fun x9 => if x9 ≤ v3 then some (v2) else b1 (gR μ v0 7 4) (fun x16 => b1 (aI μ x16 0 v3) (fun x20 => if v1 < x20 then B_Pl_shapeOn_37 μ (fun v0 v1 v2 v3 => B_Pl_shapeOn_4 μ n v0 v1 v2 v3) v0 v1 v2 v3 else b1 (gR μ v0 7 3) (fun x26 => b1 (rc μ x26 0) (fun _ => b1 (S_Al_get x26 v3 μ) (fun x30 => b1 (cK μ x30 2) (fun _ => B_Pl_shapeOn_37 μ (fun v0 v1 v2 v3 => B_Pl_shapeOn_4 μ n v0 v1 v2 v3) v0 v1 x30 v3)))))))))) = some r := h
    refine wm_iload_n E dPl_shapeOn_4 rfl (j := 3) rfl ?_
    refine wm_aload_n E dPl_shapeOn_5 rfl (j := 0) rfl ?_
    refine wm_gR E fd_Pl_18 h dPl_shapeOn_6 (fun x6 h => ?_)
    obtain ⟨u9, hr9, h⟩ := b1S h
    obtain ⟨x9, hc9, h⟩ := b1S h
    refine wm_cV (ci := 0) (As := []) (st := [vI v3]) E lk_Pl_38 rfl im_Al_size sl_Al_size hr9 (C_Al_size (xl X) X.1 x6 μ _ hc9) rfl rfl (by rw [hR]; decide) (by rw [hR]; decide) (Nat.le_of_ble_eq_true rfl) dPl_shapeOn_9 ?_
    refine wm_icmp_ge (tgt := 43) E dPl_shapeOn_12 (by decide) (fun c12 => ?_) (fun c12 => ?_)
    · have h := (if_pos c12).symm.trans h
      refine wm_aload_n E dPl_shapeOn_43 rfl (j := 2) rfl ?_
      exact wm_aret E hQ (rqR0 h) rfl (Or.inl ⟨_, rfl⟩) (by decide) (by decide) dPl_shapeOn_44
    · have h := (if_neg c12).symm.trans h
      refine wm_aload_n E dPl_shapeOn_15 rfl (j := 0) rfl ?_
      refine wm_gR E fd_Pl_22 h dPl_shapeOn_16 (fun x16 h => ?_)
      refine wm_iload_n E dPl_shapeOn_19 rfl (j := 3) rfl ?_
      refine wm_iald (t := 0) E rfl h dPl_shapeOn_20 (fun x20 h => ?_)
      refine wm_iload_n E dPl_shapeOn_21 rfl (j := 1) rfl ?_
      refine wm_icmp_gt (tgt := 37) E dPl_shapeOn_22 (by decide) (fun c22 => ?_) (fun c22 => ?_)
      · have h := (if_pos c22).symm.trans h
        refine wm_pick (lv' := [(0, vR v0), (1, vI v1), (2, vR v2), (3, vI v3)]) [0, 1, 2, 3] rfl ?_
        exact w_Pl_shapeOn_37 E hQ hR hI (fun v0 v1 v2 v3 => B_Pl_shapeOn_4 μ n v0 v1 v2 v3) ih v0 v1 v2 v3 h
      · have h := (if_neg c22).symm.trans h
        refine wm_aload_n E dPl_shapeOn_25 rfl (j := 0) rfl ?_
        refine wm_gR E fd_Pl_18 h dPl_shapeOn_26 (fun x26 h => ?_)
        refine wm_iload_n E dPl_shapeOn_29 rfl (j := 3) rfl ?_
        obtain ⟨u30, hr30, h⟩ := b1S h
        obtain ⟨x30, hc30, h⟩ := b1S h
        refine wm_cV (ci := 0) (As := [vI v3]) (st := []) E lk_Pl_46 rfl im_Al_get sl_Al_get hr30 (C_Al_get (xl X) X.1 x26 v3 μ _ hc30) rfl rfl (by rw [hR]; decide) (by rw [hR]; decide) (Nat.le_of_ble_eq_true rfl) dPl_shapeOn_30 ?_
        refine wm_ckc (ci := 2) E rfl cl_Pl_50 h dPl_shapeOn_33 (fun h => ?_)
        refine wm_astore_n (lv' := [(2, vR x30), (0, vR v0), (1, vI v1), (3, vI v3)]) E dPl_shapeOn_36 rfl (by decide) rfl ?_
        refine wm_pick (lv' := [(0, vR v0), (1, vI v1), (2, vR x30), (3, vI v3)]) [1, 2, 0, 3] rfl ?_
        exact w_Pl_shapeOn_37 E hQ hR hI (fun v0 v1 v2 v3 => B_Pl_shapeOn_4 μ n v0 v1 v2 v3) ih v0 v1 x30 v3 h
def S_Pl_shapeOn (v0 : Option Nat) (v1 : Int32) (μ : Mem) : Option (Option Nat) := B_Pl_shapeOn_4 μ fu v0 v1 none 0
set_option maxHeartbeats 4000000 in
set_option maxRecDepth 100000 in
theorem C_Pl_shapeOn (l : Launch) (G : GG) (v0 : Option Nat) (v1 : Int32) (μ : Mem) (r : Option Nat) (h : S_Pl_shapeOn v0 v1 μ = some r) : CT l G y_Pl_shapeOn prog_8_method_4_code 4 (some (.object "PlaceFinder$Corners")) 3 0 0 64 μ [vR v0, vI v1] (some (vR r)) μ := by
  refine wm_met (lv := [(0, vR v0), (1, vI v1)]) (by decide +kernel) (Nat.le_of_ble_eq_true rfl) rfl (fun X E hQ hR hI => ?_)
  have h : (B_Pl_shapeOn_4 μ fu v0 v1 none 0) = some r := h
  refine wm_null E dPl_shapeOn_0 ?_
  refine wm_astore_n (lv' := [(2, vR none), (0, vR v0), (1, vI v1)]) E dPl_shapeOn_1 rfl (by decide) rfl ?_
  refine wm_iconst (x := 0) E dPl_shapeOn_2 (by decide) ?_
  refine wm_istore_n (lv' := [(3, vI 0), (2, vR none), (0, vR v0), (1, vI v1)]) E dPl_shapeOn_3 rfl (by decide) rfl ?_
  refine wm_pick (lv' := [(0, vR v0), (1, vI v1), (2, vR none), (3, vI 0)]) [2, 3, 1, 0] rfl ?_
  exact w_Pl_shapeOn_4 E hQ hR hI fu v0 v1 none 0 h
def B_Co_isInBox_83 (μ : Mem)   (s0 : Int32) : Option Int32 := gd (¬ okZ s0 = true) (some (s0))
set_option maxHeartbeats 4000000 in
set_option maxRecDepth 100000 in
theorem w_Co_isInBox_83 {X : CX} (E : EV X prog_3_method_10_code 5 "PlaceFinder$Corners" (some .boolean)) {μ0 μ : Mem} {r : Int32} (hQ : RQ X 0 0 μ0 (some (vI r)) μ) (hR : xR X = { frames := 1, cells := 0, slots := 0, locals := 21 }) (hI : X.2.2.2.2.2.2.2.2.2.2.2.1.name = "isInBox")  (s0 : Int32) (h : B_Co_isInBox_83 μ  s0 = some r) : WM X 5 83 [] [vI s0] 0 0 μ := by
  have h : (gd (¬ okZ s0 = true) (some (s0))) = some r := h
  obtain ⟨hz83, h⟩ := gdS h
  exact wm_zret (rt := .boolean) E hQ (rqI1 h) rfl (okZN hz83) (by decide) (by decide) dCo_isInBox_83
def B_Co_isInBox_82 (μ : Mem)    : Option Int32 := B_Co_isInBox_83 μ 0
set_option maxHeartbeats 4000000 in
set_option maxRecDepth 100000 in
theorem w_Co_isInBox_82 {X : CX} (E : EV X prog_3_method_10_code 5 "PlaceFinder$Corners" (some .boolean)) {μ0 μ : Mem} {r : Int32} (hQ : RQ X 0 0 μ0 (some (vI r)) μ) (hR : xR X = { frames := 1, cells := 0, slots := 0, locals := 21 }) (hI : X.2.2.2.2.2.2.2.2.2.2.2.1.name = "isInBox")   (h : B_Co_isInBox_82 μ   = some r) : WM X 5 82 [] [] 0 0 μ := by
  have h : (B_Co_isInBox_83 μ 0) = some r := h
  refine wm_iconst (x := 0) E dCo_isInBox_82 (by decide) ?_
  refine wm_pick (lv' := []) [] rfl ?_
  exact w_Co_isInBox_83 E hQ hR hI 0 h
def S_Co_isInBox (v0 : Option Nat) (v1 : Int32) (v2 : Int32) (v3 : Int32) (v4 : Int32) (μ : Mem) : Option Int32 := b1 (gR μ v0 2 1) (fun x2 => b1 (aI μ x2 0 v1) (fun x6 => b1 (gR μ v0 2 1) (fun x8 => b1 (aI μ x8 0 v2) (fun x12 => b1 (S_Ma_min x6 x12 μ) (fun x13 => if v3 < x13 then B_Co_isInBox_82 μ  else b1 (gR μ v0 2 1) (fun x21 => b1 (aI μ x21 0 v1) (fun x25 => b1 (gR μ v0 2 1) (fun x27 => b1 (aI μ x27 0 v2) (fun x31 => b1 (S_Ma_max x25 x31 μ) (fun x32 => if x32 < v3 then B_Co_isInBox_82 μ  else b1 (gR μ v0 2 2) (fun x41 => b1 (aI μ x41 0 v1) (fun x45 => b1 (gR μ v0 2 2) (fun x47 => b1 (aI μ x47 0 v2) (fun x51 => b1 (S_Ma_min x45 x51 μ) (fun x52 => if v4 < x52 then B_Co_isInBox_82 μ  else b1 (gR μ v0 2 2) (fun x61 => b1 (aI μ x61 0 v1) (fun x65 => b1 (gR μ v0 2 2) (fun x67 => b1 (aI μ x67 0 v2) (fun x71 => b1 (S_Ma_max x65 x71 μ) (fun x72 => if x72 < v4 then B_Co_isInBox_82 μ  else B_Co_isInBox_83 μ 1))))))))))))))))))))
set_option maxHeartbeats 4000000 in
set_option maxRecDepth 100000 in
theorem C_Co_isInBox (l : Launch) (G : GG) (v0 : Option Nat) (v1 : Int32) (v2 : Int32) (v3 : Int32) (v4 : Int32) (μ : Mem) (r : Int32) (h : S_Co_isInBox v0 v1 v2 v3 v4 μ = some r) : CT l G y_Co_isInBox prog_3_method_10_code 5 (some .boolean) 1 0 0 21 μ [vR v0, vI v1, vI v2, vI v3, vI v4] (some (vI r)) μ := by
  refine wm_met (lv := [(0, vR v0), (1, vI v1), (2, vI v2), (3, vI v3), (4, vI v4)]) (by decide +kernel) (Nat.le_of_ble_eq_true rfl) rfl (fun X E hQ hR hI => ?_)
  have h : (b1 (gR μ v0 2 1) (fun x2 => b1 (aI μ x2 0 v1) (fun x6 => b1 (gR μ v0 2 1) (fun x8 => b1 (aI μ x8 0 v2) (fun x12 => b1 (S_Ma_min x6 x12 μ) (fun x13 => if v3 < x13 then B_Co_isInBox_82 μ  else b1 (gR μ v0 2 1) (fun x21 => b1 (aI μ x21 0 v1) (fun x25 => b1 (gR μ v0 2 1) (fun x27 => b1 (aI μ x27 0 v2) (fun x31 => b1 (S_Ma_max x25 x31 μ) (fun x32 => if x32 < v3 then B_Co_isInBox_82 μ  else b1 (gR μ v0 2 2) (fun x41 => b1 (aI μ x41 0 v1) (fun x45 => b1 (gR μ v0 2 2) (fun x47 => b1 (aI μ x47 0 v2) (fun x51 => b1 (S_Ma_min x45 x51 μ) (fun x52 => if v4 < x52 then B_Co_isInBox_82 μ  else b1 (gR μ v0 2 2) (fun x61 => b1 (aI μ x61 0 v1) (fun x65 => b1 (gR μ v0 2 2) (fun x67 => b1 (aI μ x67 0 v2) (fun x71 => b1 (S_Ma_max x65 x71 μ) (fun x72 => if x72 < v4 then B_Co_isInBox_82 μ  else B_Co_isInBox_83 μ 1))))))))))))))))))))) = some r := h
  refine wm_iload_n E dCo_isInBox_0 rfl (j := 3) rfl ?_
  refine wm_aload_n E dCo_isInBox_1 rfl (j := 0) rfl ?_
  refine wm_gR E fd_Co_21 h dCo_isInBox_2 (fun x2 h => ?_)
  refine wm_iload_n E dCo_isInBox_5 rfl (j := 1) rfl ?_
  refine wm_iald (t := 0) E rfl h dCo_isInBox_6 (fun x6 h => ?_)
  refine wm_aload_n E dCo_isInBox_7 rfl (j := 0) rfl ?_
  refine wm_gR E fd_Co_21 h dCo_isInBox_8 (fun x8 h => ?_)
  refine wm_iload_n E dCo_isInBox_11 rfl (j := 2) rfl ?_
  refine wm_iald (t := 0) E rfl h dCo_isInBox_12 (fun x12 h => ?_)
  obtain ⟨x13, hc13, h⟩ := b1S h
  refine wm_cS (As := [vI x6, vI x12]) (st := [vI v3]) E lk_Co_41 sc_Ma_min (C_Ma_min (xl X) X.1 x6 x12 μ _ hc13) rfl rfl (by rw [hR]; decide) (by rw [hR]; decide) (Nat.le_of_ble_eq_true rfl) dCo_isInBox_13 ?_
  refine wm_icmp_lt (tgt := 82) E dCo_isInBox_16 (by decide) (fun c16 => ?_) (fun c16 => ?_)
  · have h := (if_pos c16).symm.trans h
    refine wm_pick (lv' := []) [] rfl ?_
    exact w_Co_isInBox_82 E hQ hR hI  h
  · have h := (if_neg c16).symm.trans h
    refine wm_iload_n E dCo_isInBox_19 rfl (j := 3) rfl ?_
    refine wm_aload_n E dCo_isInBox_20 rfl (j := 0) rfl ?_
    refine wm_gR E fd_Co_21 h dCo_isInBox_21 (fun x21 h => ?_)
    refine wm_iload_n E dCo_isInBox_24 rfl (j := 1) rfl ?_
    refine wm_iald (t := 0) E rfl h dCo_isInBox_25 (fun x25 h => ?_)
    refine wm_aload_n E dCo_isInBox_26 rfl (j := 0) rfl ?_
    refine wm_gR E fd_Co_21 h dCo_isInBox_27 (fun x27 h => ?_)
    refine wm_iload_n E dCo_isInBox_30 rfl (j := 2) rfl ?_
    refine wm_iald (t := 0) E rfl h dCo_isInBox_31 (fun x31 h => ?_)
    obtain ⟨x32, hc32, h⟩ := b1S h
    refine wm_cS (As := [vI x25, vI x31]) (st := [vI v3]) E lk_Co_55 sc_Ma_max (C_Ma_max (xl X) X.1 x25 x31 μ _ hc32) rfl rfl (by rw [hR]; decide) (by rw [hR]; decide) (Nat.le_of_ble_eq_true rfl) dCo_isInBox_32 ?_
    refine wm_icmp_gt (tgt := 82) E dCo_isInBox_35 (by decide) (fun c35 => ?_) (fun c35 => ?_)
    · have h := (if_pos c35).symm.trans h
      refine wm_pick (lv' := []) [] rfl ?_
      exact w_Co_isInBox_82 E hQ hR hI  h
    · have h := (if_neg c35).symm.trans h
      refine wm_iload E dCo_isInBox_38 (j := 4) rfl ?_
      refine wm_aload_n E dCo_isInBox_40 rfl (j := 0) rfl ?_
      refine wm_gR E fd_Co_25 h dCo_isInBox_41 (fun x41 h => ?_)
      refine wm_iload_n E dCo_isInBox_44 rfl (j := 1) rfl ?_
      refine wm_iald (t := 0) E rfl h dCo_isInBox_45 (fun x45 h => ?_)
      refine wm_aload_n E dCo_isInBox_46 rfl (j := 0) rfl ?_
      refine wm_gR E fd_Co_25 h dCo_isInBox_47 (fun x47 h => ?_)
      refine wm_iload_n E dCo_isInBox_50 rfl (j := 2) rfl ?_
      refine wm_iald (t := 0) E rfl h dCo_isInBox_51 (fun x51 h => ?_)
      obtain ⟨x52, hc52, h⟩ := b1S h
      refine wm_cS (As := [vI x45, vI x51]) (st := [vI v4]) E lk_Co_41 sc_Ma_min (C_Ma_min (xl X) X.1 x45 x51 μ _ hc52) rfl rfl (by rw [hR]; decide) (by rw [hR]; decide) (Nat.le_of_ble_eq_true rfl) dCo_isInBox_52 ?_
      refine wm_icmp_lt (tgt := 82) E dCo_isInBox_55 (by decide) (fun c55 => ?_) (fun c55 => ?_)
      · have h := (if_pos c55).symm.trans h
        refine wm_pick (lv' := []) [] rfl ?_
        exact w_Co_isInBox_82 E hQ hR hI  h
      · have h := (if_neg c55).symm.trans h
        refine wm_iload E dCo_isInBox_58 (j := 4) rfl ?_
        refine wm_aload_n E dCo_isInBox_60 rfl (j := 0) rfl ?_
        refine wm_gR E fd_Co_25 h dCo_isInBox_61 (fun x61 h => ?_)
        refine wm_iload_n E dCo_isInBox_64 rfl (j := 1) rfl ?_
        refine wm_iald (t := 0) E rfl h dCo_isInBox_65 (fun x65 h => ?_)
        refine wm_aload_n E dCo_isInBox_66 rfl (j := 0) rfl ?_
        refine wm_gR E fd_Co_25 h dCo_isInBox_67 (fun x67 h => ?_)
        refine wm_iload_n E dCo_isInBox_70 rfl (j := 2) rfl ?_
        refine wm_iald (t := 0) E rfl h dCo_isInBox_71 (fun x71 h => ?_)
        obtain ⟨x72, hc72, h⟩ := b1S h
        refine wm_cS (As := [vI x65, vI x71]) (st := [vI v4]) E lk_Co_55 sc_Ma_max (C_Ma_max (xl X) X.1 x65 x71 μ _ hc72) rfl rfl (by rw [hR]; decide) (by rw [hR]; decide) (Nat.le_of_ble_eq_true rfl) dCo_isInBox_72 ?_
        refine wm_icmp_gt (tgt := 82) E dCo_isInBox_75 (by decide) (fun c75 => ?_) (fun c75 => ?_)
        · have h := (if_pos c75).symm.trans h
          refine wm_pick (lv' := []) [] rfl ?_
          exact w_Co_isInBox_82 E hQ hR hI  h
        · have h := (if_neg c75).symm.trans h
          refine wm_iconst (x := 1) E dCo_isInBox_78 (by decide) ?_
          refine wm_goto (tgt := 83) E dCo_isInBox_79 (by decide) ?_
          refine wm_pick (lv' := []) [] rfl ?_
          exact w_Co_isInBox_83 E hQ hR hI 1 h
def B_Co_hasInside_179 (μ : Mem)  (k5 : Option Nat → Int32 → Int32 → Int32 → Int32 → Option Int32) (v0 : Option Nat) (v1 : Int32) (v2 : Int32) (v3 : Int32) (v4 : Int32) : Option Int32 := k5 v0 v1 v2 v3 (v4 + 1)
set_option maxHeartbeats 4000000 in
set_option maxRecDepth 100000 in
theorem w_Co_hasInside_179 {X : CX} (E : EV X prog_3_method_9_code 8 "PlaceFinder$Corners" (some .boolean)) {μ0 μ : Mem} {r : Int32} (hQ : RQ X 0 0 μ0 (some (vI r)) μ) (hR : xR X = { frames := 2, cells := 0, slots := 0, locals := 45 }) (hI : X.2.2.2.2.2.2.2.2.2.2.2.1.name = "hasInside") (k5 : Option Nat → Int32 → Int32 → Int32 → Int32 → Option Int32) (hk5 : ∀ (v0 : Option Nat) (v1 : Int32) (v2 : Int32) (v3 : Int32) (v4 : Int32), k5 v0 v1 v2 v3 v4 = some r → WM X 8 5 [(0, vR v0), (1, vI v1), (2, vI v2), (3, vI v3), (4, vI v4)] [] 0 0 μ) (v0 : Option Nat) (v1 : Int32) (v2 : Int32) (v3 : Int32) (v4 : Int32) (h : B_Co_hasInside_179 μ k5 v0 v1 v2 v3 v4 = some r) : WM X 8 179 [(0, vR v0), (1, vI v1), (2, vI v2), (3, vI v3), (4, vI v4)] [] 0 0 μ := by
  have h : (k5 v0 v1 v2 v3 (v4 + 1)) = some r := h
  refine wm_iinc (lv' := [(4, vI (v4 + 1)), (0, vR v0), (1, vI v1), (2, vI v2), (3, vI v3)]) (d := 1) E dCo_hasInside_179 (by decide) (j := 4) rfl (by decide) rfl ?_
  refine wm_goto (tgt := 5) E dCo_hasInside_182 (by decide) ?_
  refine wm_pick (lv' := [(0, vR v0), (1, vI v1), (2, vI v2), (3, vI v3), (4, vI (v4 + 1))]) [1, 2, 3, 4, 0] rfl ?_
  exact hk5 v0 v1 v2 v3 (v4 + 1) h
def B_Co_hasInside_178 (μ : Mem)  (k5 : Option Nat → Int32 → Int32 → Int32 → Int32 → Option Int32) (v0 : Option Nat) (v1 : Int32) (v2 : Int32) (v4 : Int32) (s0 : Int32) : Option Int32 := B_Co_hasInside_179 μ k5 v0 v1 v2 s0 v4
set_option maxHeartbeats 4000000 in
set_option maxRecDepth 100000 in
theorem w_Co_hasInside_178 {X : CX} (E : EV X prog_3_method_9_code 8 "PlaceFinder$Corners" (some .boolean)) {μ0 μ : Mem} {r : Int32} (hQ : RQ X 0 0 μ0 (some (vI r)) μ) (hR : xR X = { frames := 2, cells := 0, slots := 0, locals := 45 }) (hI : X.2.2.2.2.2.2.2.2.2.2.2.1.name = "hasInside") (k5 : Option Nat → Int32 → Int32 → Int32 → Int32 → Option Int32) (hk5 : ∀ (v0 : Option Nat) (v1 : Int32) (v2 : Int32) (v3 : Int32) (v4 : Int32), k5 v0 v1 v2 v3 v4 = some r → WM X 8 5 [(0, vR v0), (1, vI v1), (2, vI v2), (3, vI v3), (4, vI v4)] [] 0 0 μ) (v0 : Option Nat) (v1 : Int32) (v2 : Int32) (v4 : Int32) (s0 : Int32) (h : B_Co_hasInside_178 μ k5 v0 v1 v2 v4 s0 = some r) : WM X 8 178 [(0, vR v0), (1, vI v1), (2, vI v2), (4, vI v4)] [vI s0] 0 0 μ := by
  have h : (B_Co_hasInside_179 μ k5 v0 v1 v2 s0 v4) = some r := h
  refine wm_istore_n (lv' := [(3, vI s0), (0, vR v0), (1, vI v1), (2, vI v2), (4, vI v4)]) E dCo_hasInside_178 rfl (by decide) rfl ?_
  refine wm_pick (lv' := [(0, vR v0), (1, vI v1), (2, vI v2), (3, vI s0), (4, vI v4)]) [1, 2, 3, 0, 4] rfl ?_
  exact w_Co_hasInside_179 E hQ hR hI k5 hk5 v0 v1 v2 s0 v4 h
def B_Co_hasInside_164 (μ : Mem)  (k5 : Option Nat → Int32 → Int32 → Int32 → Int32 → Option Int32) (v0 : Option Nat) (v1 : Int32) (v2 : Int32) (v3 : Int32) (v4 : Int32) (v7 : Int32) (s0 : Int32) : Option Int32 := if s0 = v7 then if v3 = 0 then B_Co_hasInside_178 μ k5 v0 v1 v2 v4 1 else B_Co_hasInside_178 μ k5 v0 v1 v2 v4 0 else B_Co_hasInside_179 μ k5 v0 v1 v2 v3 v4
set_option maxHeartbeats 4000000 in
set_option maxRecDepth 100000 in
theorem w_Co_hasInside_164 {X : CX} (E : EV X prog_3_method_9_code 8 "PlaceFinder$Corners" (some .boolean)) {μ0 μ : Mem} {r : Int32} (hQ : RQ X 0 0 μ0 (some (vI r)) μ) (hR : xR X = { frames := 2, cells := 0, slots := 0, locals := 45 }) (hI : X.2.2.2.2.2.2.2.2.2.2.2.1.name = "hasInside") (k5 : Option Nat → Int32 → Int32 → Int32 → Int32 → Option Int32) (hk5 : ∀ (v0 : Option Nat) (v1 : Int32) (v2 : Int32) (v3 : Int32) (v4 : Int32), k5 v0 v1 v2 v3 v4 = some r → WM X 8 5 [(0, vR v0), (1, vI v1), (2, vI v2), (3, vI v3), (4, vI v4)] [] 0 0 μ) (v0 : Option Nat) (v1 : Int32) (v2 : Int32) (v3 : Int32) (v4 : Int32) (v7 : Int32) (s0 : Int32) (h : B_Co_hasInside_164 μ k5 v0 v1 v2 v3 v4 v7 s0 = some r) : WM X 8 164 [(0, vR v0), (1, vI v1), (2, vI v2), (3, vI v3), (4, vI v4), (7, vI v7)] [vI s0] 0 0 μ := by
  have h : (if s0 = v7 then if v3 = 0 then B_Co_hasInside_178 μ k5 v0 v1 v2 v4 1 else B_Co_hasInside_178 μ k5 v0 v1 v2 v4 0 else B_Co_hasInside_179 μ k5 v0 v1 v2 v3 v4) = some r := h
  refine wm_iload E dCo_hasInside_164 (j := 5) rfl ?_
  refine wm_icmp_ne (tgt := 179) E dCo_hasInside_166 (by decide) (fun c166 => ?_) (fun c166 => ?_)
  · have h := (if_neg c166).symm.trans h
    refine wm_pick (lv' := [(0, vR v0), (1, vI v1), (2, vI v2), (3, vI v3), (4, vI v4)]) [0, 1, 2, 3, 4] rfl ?_
    exact w_Co_hasInside_179 E hQ hR hI k5 hk5 v0 v1 v2 v3 v4 h
  · have h := (if_pos c166).symm.trans h
    refine wm_iload_n E dCo_hasInside_169 rfl (j := 3) rfl ?_
    refine wm_if_ne (tgt := 177) E dCo_hasInside_170 (by decide) (fun c170 => ?_) (fun c170 => ?_)
    · have h := (if_neg c170).symm.trans h
      refine wm_iconst (x := 0) E dCo_hasInside_177 (by decide) ?_
      refine wm_pick (lv' := [(0, vR v0), (1, vI v1), (2, vI v2), (4, vI v4)]) [0, 1, 2, 4] rfl ?_
      exact w_Co_hasInside_178 E hQ hR hI k5 hk5 v0 v1 v2 v4 0 h
    · have h := (if_pos c170).symm.trans h
      refine wm_iconst (x := 1) E dCo_hasInside_173 (by decide) ?_
      refine wm_goto (tgt := 178) E dCo_hasInside_174 (by decide) ?_
      refine wm_pick (lv' := [(0, vR v0), (1, vI v1), (2, vI v2), (4, vI v4)]) [0, 1, 2, 4] rfl ?_
      exact w_Co_hasInside_178 E hQ hR hI k5 hk5 v0 v1 v2 v4 1 h
def B_Co_hasInside_151 (μ : Mem)  (k5 : Option Nat → Int32 → Int32 → Int32 → Int32 → Option Int32) (v0 : Option Nat) (v1 : Int32) (v2 : Int32) (v3 : Int32) (v4 : Int32) (v6 : Int32) (v7 : Int32) (s0 : Int32) (s1 : Int32) : Option Int32 := if s0 = s1 then B_Co_hasInside_179 μ k5 v0 v1 v2 v3 v4 else if v6 ≤ 0 then B_Co_hasInside_164 μ k5 v0 v1 v2 v3 v4 v7 0 else B_Co_hasInside_164 μ k5 v0 v1 v2 v3 v4 v7 1
set_option maxHeartbeats 4000000 in
set_option maxRecDepth 100000 in
theorem w_Co_hasInside_151 {X : CX} (E : EV X prog_3_method_9_code 8 "PlaceFinder$Corners" (some .boolean)) {μ0 μ : Mem} {r : Int32} (hQ : RQ X 0 0 μ0 (some (vI r)) μ) (hR : xR X = { frames := 2, cells := 0, slots := 0, locals := 45 }) (hI : X.2.2.2.2.2.2.2.2.2.2.2.1.name = "hasInside") (k5 : Option Nat → Int32 → Int32 → Int32 → Int32 → Option Int32) (hk5 : ∀ (v0 : Option Nat) (v1 : Int32) (v2 : Int32) (v3 : Int32) (v4 : Int32), k5 v0 v1 v2 v3 v4 = some r → WM X 8 5 [(0, vR v0), (1, vI v1), (2, vI v2), (3, vI v3), (4, vI v4)] [] 0 0 μ) (v0 : Option Nat) (v1 : Int32) (v2 : Int32) (v3 : Int32) (v4 : Int32) (v6 : Int32) (v7 : Int32) (s0 : Int32) (s1 : Int32) (h : B_Co_hasInside_151 μ k5 v0 v1 v2 v3 v4 v6 v7 s0 s1 = some r) : WM X 8 151 [(0, vR v0), (1, vI v1), (2, vI v2), (3, vI v3), (4, vI v4), (6, vI v6), (7, vI v7)] [vI s1, vI s0] 0 0 μ := by
  have h : (if s0 = s1 then B_Co_hasInside_179 μ k5 v0 v1 v2 v3 v4 else if v6 ≤ 0 then B_Co_hasInside_164 μ k5 v0 v1 v2 v3 v4 v7 0 else B_Co_hasInside_164 μ k5 v0 v1 v2 v3 v4 v7 1) = some r := h
  refine wm_icmp_eq (tgt := 179) E dCo_hasInside_151 (by decide) (fun c151 => ?_) (fun c151 => ?_)
  · have h := (if_pos c151).symm.trans h
    refine wm_pick (lv' := [(0, vR v0), (1, vI v1), (2, vI v2), (3, vI v3), (4, vI v4)]) [0, 1, 2, 3, 4] rfl ?_
    exact w_Co_hasInside_179 E hQ hR hI k5 hk5 v0 v1 v2 v3 v4 h
  · have h := (if_neg c151).symm.trans h
    refine wm_iload E dCo_hasInside_154 (j := 5) rfl ?_
    refine wm_if_le (tgt := 163) E dCo_hasInside_156 (by decide) (fun c156 => ?_) (fun c156 => ?_)
    · have h := (if_pos c156).symm.trans h
      refine wm_iconst (x := 0) E dCo_hasInside_163 (by decide) ?_
      refine wm_pick (lv' := [(0, vR v0), (1, vI v1), (2, vI v2), (3, vI v3), (4, vI v4), (7, vI v7)]) [0, 1, 2, 3, 4, 6] rfl ?_
      exact w_Co_hasInside_164 E hQ hR hI k5 hk5 v0 v1 v2 v3 v4 v7 0 h
    · have h := (if_neg c156).symm.trans h
      refine wm_iconst (x := 1) E dCo_hasInside_159 (by decide) ?_
      refine wm_goto (tgt := 164) E dCo_hasInside_160 (by decide) ?_
      refine wm_pick (lv' := [(0, vR v0), (1, vI v1), (2, vI v2), (3, vI v3), (4, vI v4), (7, vI v7)]) [0, 1, 2, 3, 4, 6] rfl ?_
      exact w_Co_hasInside_164 E hQ hR hI k5 hk5 v0 v1 v2 v3 v4 v7 1 h
def B_Co_hasInside_135 (μ : Mem)  (k5 : Option Nat → Int32 → Int32 → Int32 → Int32 → Option Int32) (v0 : Option Nat) (v1 : Int32) (v2 : Int32) (v3 : Int32) (v4 : Int32) (v5 : Int32) (v6 : Int32) (v7 : Int32) (s0 : Int32) : Option Int32 := b1 (gR μ v0 2 2) (fun x136 => b1 (aI μ x136 0 v5) (fun x141 => if x141 ≤ v2 then B_Co_hasInside_151 μ k5 v0 v1 v2 v3 v4 v6 v7 s0 0 else B_Co_hasInside_151 μ k5 v0 v1 v2 v3 v4 v6 v7 s0 1))
set_option maxHeartbeats 4000000 in
set_option maxRecDepth 100000 in
theorem w_Co_hasInside_135 {X : CX} (E : EV X prog_3_method_9_code 8 "PlaceFinder$Corners" (some .boolean)) {μ0 μ : Mem} {r : Int32} (hQ : RQ X 0 0 μ0 (some (vI r)) μ) (hR : xR X = { frames := 2, cells := 0, slots := 0, locals := 45 }) (hI : X.2.2.2.2.2.2.2.2.2.2.2.1.name = "hasInside") (k5 : Option Nat → Int32 → Int32 → Int32 → Int32 → Option Int32) (hk5 : ∀ (v0 : Option Nat) (v1 : Int32) (v2 : Int32) (v3 : Int32) (v4 : Int32), k5 v0 v1 v2 v3 v4 = some r → WM X 8 5 [(0, vR v0), (1, vI v1), (2, vI v2), (3, vI v3), (4, vI v4)] [] 0 0 μ) (v0 : Option Nat) (v1 : Int32) (v2 : Int32) (v3 : Int32) (v4 : Int32) (v5 : Int32) (v6 : Int32) (v7 : Int32) (s0 : Int32) (h : B_Co_hasInside_135 μ k5 v0 v1 v2 v3 v4 v5 v6 v7 s0 = some r) : WM X 8 135 [(0, vR v0), (1, vI v1), (2, vI v2), (3, vI v3), (4, vI v4), (5, vI v5), (6, vI v6), (7, vI v7)] [vI s0] 0 0 μ := by
  have h : (b1 (gR μ v0 2 2) (fun x136 => b1 (aI μ x136 0 v5) (fun x141 => if x141 ≤ v2 then B_Co_hasInside_151 μ k5 v0 v1 v2 v3 v4 v6 v7 s0 0 else B_Co_hasInside_151 μ k5 v0 v1 v2 v3 v4 v6 v7 s0 1))) = some r := h
  refine wm_aload_n E dCo_hasInside_135 rfl (j := 0) rfl ?_
  refine wm_gR E fd_Co_25 h dCo_hasInside_136 (fun x136 h => ?_)
  refine wm_iload E dCo_hasInside_139 (j := 5) rfl ?_
  refine wm_iald (t := 0) E rfl h dCo_hasInside_141 (fun x141 h => ?_)
  refine wm_iload_n E dCo_hasInside_142 rfl (j := 2) rfl ?_
  refine wm_icmp_le (tgt := 150) E dCo_hasInside_143 (by decide) (fun c143 => ?_) (fun c143 => ?_)
  · have h := (if_pos c143).symm.trans h
    refine wm_iconst (x := 0) E dCo_hasInside_150 (by decide) ?_
    refine wm_pick (lv' := [(0, vR v0), (1, vI v1), (2, vI v2), (3, vI v3), (4, vI v4), (6, vI v6), (7, vI v7)]) [0, 1, 2, 3, 4, 6, 7] rfl ?_
    exact w_Co_hasInside_151 E hQ hR hI k5 hk5 v0 v1 v2 v3 v4 v6 v7 s0 0 h
  · have h := (if_neg c143).symm.trans h
    refine wm_iconst (x := 1) E dCo_hasInside_146 (by decide) ?_
    refine wm_goto (tgt := 151) E dCo_hasInside_147 (by decide) ?_
    refine wm_pick (lv' := [(0, vR v0), (1, vI v1), (2, vI v2), (3, vI v3), (4, vI v4), (6, vI v6), (7, vI v7)]) [0, 1, 2, 3, 4, 6, 7] rfl ?_
    exact w_Co_hasInside_151 E hQ hR hI k5 hk5 v0 v1 v2 v3 v4 v6 v7 s0 1 h
def B_Co_hasInside_117 (μ : Mem)  (k5 : Option Nat → Int32 → Int32 → Int32 → Int32 → Option Int32) (v0 : Option Nat) (v1 : Int32) (v2 : Int32) (v3 : Int32) (v4 : Int32) (v5 : Int32) (v6 : Int32) (s0 : Int32) : Option Int32 := b1 (gR μ v0 2 2) (fun x120 => b1 (aI μ x120 0 v4) (fun x125 => if x125 ≤ v2 then B_Co_hasInside_135 μ k5 v0 v1 v2 v3 v4 v5 v6 s0 0 else B_Co_hasInside_135 μ k5 v0 v1 v2 v3 v4 v5 v6 s0 1))
set_option maxHeartbeats 4000000 in
set_option maxRecDepth 100000 in
theorem w_Co_hasInside_117 {X : CX} (E : EV X prog_3_method_9_code 8 "PlaceFinder$Corners" (some .boolean)) {μ0 μ : Mem} {r : Int32} (hQ : RQ X 0 0 μ0 (some (vI r)) μ) (hR : xR X = { frames := 2, cells := 0, slots := 0, locals := 45 }) (hI : X.2.2.2.2.2.2.2.2.2.2.2.1.name = "hasInside") (k5 : Option Nat → Int32 → Int32 → Int32 → Int32 → Option Int32) (hk5 : ∀ (v0 : Option Nat) (v1 : Int32) (v2 : Int32) (v3 : Int32) (v4 : Int32), k5 v0 v1 v2 v3 v4 = some r → WM X 8 5 [(0, vR v0), (1, vI v1), (2, vI v2), (3, vI v3), (4, vI v4)] [] 0 0 μ) (v0 : Option Nat) (v1 : Int32) (v2 : Int32) (v3 : Int32) (v4 : Int32) (v5 : Int32) (v6 : Int32) (s0 : Int32) (h : B_Co_hasInside_117 μ k5 v0 v1 v2 v3 v4 v5 v6 s0 = some r) : WM X 8 117 [(0, vR v0), (1, vI v1), (2, vI v2), (3, vI v3), (4, vI v4), (5, vI v5), (6, vI v6)] [vI s0] 0 0 μ := by
  have h : (b1 (gR μ v0 2 2) (fun x120 => b1 (aI μ x120 0 v4) (fun x125 => if x125 ≤ v2 then B_Co_hasInside_135 μ k5 v0 v1 v2 v3 v4 v5 v6 s0 0 else B_Co_hasInside_135 μ k5 v0 v1 v2 v3 v4 v5 v6 s0 1))) = some r := h
  refine wm_istore (lv' := [(7, vI s0), (0, vR v0), (1, vI v1), (2, vI v2), (3, vI v3), (4, vI v4), (5, vI v5), (6, vI v6)]) E dCo_hasInside_117 (by decide) rfl ?_
  refine wm_aload_n E dCo_hasInside_119 rfl (j := 1) rfl ?_
  refine wm_gR E fd_Co_25 h dCo_hasInside_120 (fun x120 h => ?_)
  refine wm_iload E dCo_hasInside_123 (j := 5) rfl ?_
  refine wm_iald (t := 0) E rfl h dCo_hasInside_125 (fun x125 h => ?_)
  refine wm_iload_n E dCo_hasInside_126 rfl (j := 3) rfl ?_
  refine wm_icmp_le (tgt := 134) E dCo_hasInside_127 (by decide) (fun c127 => ?_) (fun c127 => ?_)
  · have h := (if_pos c127).symm.trans h
    refine wm_iconst (x := 0) E dCo_hasInside_134 (by decide) ?_
    refine wm_pick (lv' := [(0, vR v0), (1, vI v1), (2, vI v2), (3, vI v3), (4, vI v4), (5, vI v5), (6, vI v6), (7, vI s0)]) [1, 2, 3, 4, 5, 6, 7, 0] rfl ?_
    exact w_Co_hasInside_135 E hQ hR hI k5 hk5 v0 v1 v2 v3 v4 v5 v6 s0 0 h
  · have h := (if_neg c127).symm.trans h
    refine wm_iconst (x := 1) E dCo_hasInside_130 (by decide) ?_
    refine wm_goto (tgt := 135) E dCo_hasInside_131 (by decide) ?_
    refine wm_pick (lv' := [(0, vR v0), (1, vI v1), (2, vI v2), (3, vI v3), (4, vI v4), (5, vI v5), (6, vI v6), (7, vI s0)]) [1, 2, 3, 4, 5, 6, 7, 0] rfl ?_
    exact w_Co_hasInside_135 E hQ hR hI k5 hk5 v0 v1 v2 v3 v4 v5 v6 s0 1 h
def B_Co_hasInside_95 (μ : Mem)  (k5 : Option Nat → Int32 → Int32 → Int32 → Int32 → Option Int32) (v0 : Option Nat) (v1 : Int32) (v2 : Int32) (v3 : Int32) (v4 : Int32) (v5 : Int32) (v6 : Int32) : Option Int32 := b1 (gR μ v0 2 2) (fun x96 => b1 (aI μ x96 0 v5) (fun x101 => b1 (gR μ v0 2 2) (fun x103 => b1 (aI μ x103 0 v4) (fun x108 => if x101 ≤ x108 then B_Co_hasInside_117 μ k5 v0 v1 v2 v3 v4 v5 v6 0 else B_Co_hasInside_117 μ k5 v0 v1 v2 v3 v4 v5 v6 1))))
set_option maxHeartbeats 4000000 in
set_option maxRecDepth 100000 in
theorem w_Co_hasInside_95 {X : CX} (E : EV X prog_3_method_9_code 8 "PlaceFinder$Corners" (some .boolean)) {μ0 μ : Mem} {r : Int32} (hQ : RQ X 0 0 μ0 (some (vI r)) μ) (hR : xR X = { frames := 2, cells := 0, slots := 0, locals := 45 }) (hI : X.2.2.2.2.2.2.2.2.2.2.2.1.name = "hasInside") (k5 : Option Nat → Int32 → Int32 → Int32 → Int32 → Option Int32) (hk5 : ∀ (v0 : Option Nat) (v1 : Int32) (v2 : Int32) (v3 : Int32) (v4 : Int32), k5 v0 v1 v2 v3 v4 = some r → WM X 8 5 [(0, vR v0), (1, vI v1), (2, vI v2), (3, vI v3), (4, vI v4)] [] 0 0 μ) (v0 : Option Nat) (v1 : Int32) (v2 : Int32) (v3 : Int32) (v4 : Int32) (v5 : Int32) (v6 : Int32) (h : B_Co_hasInside_95 μ k5 v0 v1 v2 v3 v4 v5 v6 = some r) : WM X 8 95 [(0, vR v0), (1, vI v1), (2, vI v2), (3, vI v3), (4, vI v4), (5, vI v5), (6, vI v6)] [] 0 0 μ := by
  have h : (b1 (gR μ v0 2 2) (fun x96 => b1 (aI μ x96 0 v5) (fun x101 => b1 (gR μ v0 2 2) (fun x103 => b1 (aI μ x103 0 v4) (fun x108 => if x101 ≤ x108 then B_Co_hasInside_117 μ k5 v0 v1 v2 v3 v4 v5 v6 0 else B_Co_hasInside_117 μ k5 v0 v1 v2 v3 v4 v5 v6 1))))) = some r := h
  refine wm_aload_n E dCo_hasInside_95 rfl (j := 0) rfl ?_
  refine wm_gR E fd_Co_25 h dCo_hasInside_96 (fun x96 h => ?_)
  refine wm_iload E dCo_hasInside_99 (j := 5) rfl ?_
  refine wm_iald (t := 0) E rfl h dCo_hasInside_101 (fun x101 h => ?_)
  refine wm_aload_n E dCo_hasInside_102 rfl (j := 0) rfl ?_
  refine wm_gR E fd_Co_25 h dCo_hasInside_103 (fun x103 h => ?_)
  refine wm_iload E dCo_hasInside_106 (j := 4) rfl ?_
  refine wm_iald (t := 0) E rfl h dCo_hasInside_108 (fun x108 h => ?_)
  refine wm_icmp_le (tgt := 116) E dCo_hasInside_109 (by decide) (fun c109 => ?_) (fun c109 => ?_)
  · have h := (if_pos c109).symm.trans h
    refine wm_iconst (x := 0) E dCo_hasInside_116 (by decide) ?_
    refine wm_pick (lv' := [(0, vR v0), (1, vI v1), (2, vI v2), (3, vI v3), (4, vI v4), (5, vI v5), (6, vI v6)]) [0, 1, 2, 3, 4, 5, 6] rfl ?_
    exact w_Co_hasInside_117 E hQ hR hI k5 hk5 v0 v1 v2 v3 v4 v5 v6 0 h
  · have h := (if_neg c109).symm.trans h
    refine wm_iconst (x := 1) E dCo_hasInside_112 (by decide) ?_
    refine wm_goto (tgt := 117) E dCo_hasInside_113 (by decide) ?_
    refine wm_pick (lv' := [(0, vR v0), (1, vI v1), (2, vI v2), (3, vI v3), (4, vI v4), (5, vI v5), (6, vI v6)]) [0, 1, 2, 3, 4, 5, 6] rfl ?_
    exact w_Co_hasInside_117 E hQ hR hI k5 hk5 v0 v1 v2 v3 v4 v5 v6 1 h
def B_Co_hasInside_5 (μ : Mem)   : Nat → Option Nat → Int32 → Int32 → Int32 → Int32 → Option Int32
  | 0, _, _, _, _, _ => none
  | n + 1, v0, v1, v2, v3, v4 => b1 (gI μ v0 2 0) (fun x8 => if x8 ≤ v4 then gd (¬ okZ v3 = true) (some (v3)) else b1 (rc μ v0 2) (fun _ => b1 (S_Co_following v0 v4 μ) (fun x17 => b1 (gR μ v0 2 1) (fun x23 => b1 (aI μ x23 0 v4) (fun x28 => b1 (gR μ v0 2 2) (fun x32 => b1 (aI μ x32 0 x17) (fun x37 => b1 (gR μ v0 2 2) (fun x39 => b1 (aI μ x39 0 v4) (fun x44 => b1 (gR μ v0 2 2) (fun x49 => b1 (aI μ x49 0 v4) (fun x54 => b1 (gR μ v0 2 1) (fun x57 => b1 (aI μ x57 0 x17) (fun x62 => b1 (gR μ v0 2 1) (fun x64 => b1 (aI μ x64 0 v4) (fun x69 => b0 (((x28 - v1) * (x37 - x44)) + ((v2 - x54) * (x62 - x69))) (fun x73 => if x73 = 0 then b1 (rc μ v0 2) (fun _ => b1 (S_Co_isInBox v0 v4 x17 v1 v2 μ) (fun x87 => if x87 = 0 then B_Co_hasInside_95 μ (fun v0 v1 v2 v3 v4 => B_Co_hasInside_5 μ n v0 v1 v2 v3 v4) v0 v1 v2 v3 v4 x17 x73 else gd (¬ okZ 1 = true) (some (1)))) else B_Co_hasInside_95 μ (fun v0 v1 v2 v3 v4 => B_Co_hasInside_5 μ n v0 v1 v2 v3 v4) v0 v1 v2 v3 v4 x17 x73))))))))))))))))
set_option maxHeartbeats 4000000 in
set_option maxRecDepth 100000 in
theorem w_Co_hasInside_5 {X : CX} (E : EV X prog_3_method_9_code 8 "PlaceFinder$Corners" (some .boolean)) {μ0 μ : Mem} {r : Int32} (hQ : RQ X 0 0 μ0 (some (vI r)) μ) (hR : xR X = { frames := 2, cells := 0, slots := 0, locals := 45 }) (hI : X.2.2.2.2.2.2.2.2.2.2.2.1.name = "hasInside")  (n : Nat) : ∀ (v0 : Option Nat) (v1 : Int32) (v2 : Int32) (v3 : Int32) (v4 : Int32) (h : B_Co_hasInside_5 μ  n v0 v1 v2 v3 v4 = some r), WM X 8 5 [(0, vR v0), (1, vI v1), (2, vI v2), (3, vI v3), (4, vI v4)] [] 0 0 μ := by
  induction n with
  | zero => intro v0 v1 v2 v3 v4 h; cases h
  | succ n ih =>
    intro v0 v1 v2 v3 v4 h
    have h : (b1 (gI μ v0 2 0) (fun x8 => if x8 ≤ v4 then gd (¬ okZ v3 = true) (some (v3)) else b1 (rc μ v0 2) (fun _ => b1 (S_Co_following v0 v4 μ) (fun x17 => b1 (gR μ v0 2 1) (fun x23 => b1 (aI μ x23 0 v4) (fun x28 => b1 (gR μ v0 2 2) (fun x32 => b1 (aI μ x32 0 x17) (fun x37 => b1 (gR μ v0 2 2) (fun x39 => b1 (aI μ x39 0 v4) (fun x44 => b1 (gR μ v0 2 2) (fun x49 => b1 (aI μ x49 0 v4) (fun x54 => b1 (gR μ v0 2 1) (fun x57 => b1 (aI μ x57 0 x17) (fun x62 => b1 (gR μ v0 2 1) (fun x64 => b1 (aI μ x64 0 v4) (fun x69 => b0 (((x28 - v1) * (x37 - x44)) + ((v2 - x54) * (x62 - x69))) (fun x73 => if x73 = 0 then b1 (rc μ v0 2) (fun _ => b1 (S_Co_isInBox v0 v4 x17 v1 v2 μ) (fun x87 => if x87 = 0 then B_Co_hasInside_95 μ (fun v0 v1 v2 v3 v4 => B_Co_hasInside_5 μ n v0 v1 v2 v3 v4) v0 v1 v2 v3 v4 x17 x73 else gd (¬ okZ 1 = true) (some (1)))) else B_Co_hasInside_95 μ (fun v0 v1 v2 v3 v4 => B_Co_hasInside_5 μ n v0 v1 v2 v3 v4) v0 v1 v2 v3 v4 x17 x73))))))))))))))))) = some r := h
    refine wm_iload E dCo_hasInside_5 (j := 4) rfl ?_
    refine wm_aload_n E dCo_hasInside_7 rfl (j := 0) rfl ?_
    refine wm_gI E fd_Co_9 h dCo_hasInside_8 (fun x8 h => ?_)
    refine wm_icmp_ge (tgt := 185) E dCo_hasInside_11 (by decide) (fun c11 => ?_) (fun c11 => ?_)
    · have h := (if_pos c11).symm.trans h
      refine wm_iload_n E dCo_hasInside_185 rfl (j := 3) rfl ?_
      obtain ⟨hz186, h⟩ := gdS h
      exact wm_zret (rt := .boolean) E hQ (rqI1 h) rfl (okZN hz186) (by decide) (by decide) dCo_hasInside_186
    · have h := (if_neg c11).symm.trans h
      refine wm_aload_n E dCo_hasInside_14 rfl (j := 0) rfl ?_
      refine wm_iload E dCo_hasInside_15 (j := 4) rfl ?_
      obtain ⟨u17, hr17, h⟩ := b1S h
      obtain ⟨x17, hc17, h⟩ := b1S h
      refine wm_cV (ci := 2) (As := [vI v4]) (st := []) E lk_Co_32 rfl im_Co_following sl_Co_following hr17 (C_Co_following (xl X) X.1 v0 v4 μ _ hc17) rfl rfl (by rw [hR]; decide) (by rw [hR]; decide) (Nat.le_of_ble_eq_true rfl) dCo_hasInside_17 ?_
      refine wm_istore (lv' := [(5, vI x17), (0, vR v0), (1, vI v1), (2, vI v2), (3, vI v3), (4, vI v4)]) E dCo_hasInside_20 (by decide) rfl ?_
      refine wm_aload_n E dCo_hasInside_22 rfl (j := 1) rfl ?_
      refine wm_gR E fd_Co_21 h dCo_hasInside_23 (fun x23 h => ?_)
      refine wm_iload E dCo_hasInside_26 (j := 5) rfl ?_
      refine wm_iald (t := 0) E rfl h dCo_hasInside_28 (fun x28 h => ?_)
      refine wm_iload_n E dCo_hasInside_29 rfl (j := 2) rfl ?_
      refine wm_isub E dCo_hasInside_30 ?_
      refine wm_aload_n E dCo_hasInside_31 rfl (j := 1) rfl ?_
      refine wm_gR E fd_Co_25 h dCo_hasInside_32 (fun x32 h => ?_)
      refine wm_iload E dCo_hasInside_35 (j := 0) rfl ?_
      refine wm_iald (t := 0) E rfl h dCo_hasInside_37 (fun x37 h => ?_)
      refine wm_aload_n E dCo_hasInside_38 rfl (j := 1) rfl ?_
      refine wm_gR E fd_Co_25 h dCo_hasInside_39 (fun x39 h => ?_)
      refine wm_iload E dCo_hasInside_42 (j := 5) rfl ?_
      refine wm_iald (t := 0) E rfl h dCo_hasInside_44 (fun x44 h => ?_)
      refine wm_isub E dCo_hasInside_45 ?_
      refine wm_imul E dCo_hasInside_46 ?_
      refine wm_iload_n E dCo_hasInside_47 rfl (j := 3) rfl ?_
      refine wm_aload_n E dCo_hasInside_48 rfl (j := 1) rfl ?_
      refine wm_gR E fd_Co_25 h dCo_hasInside_49 (fun x49 h => ?_)
      refine wm_iload E dCo_hasInside_52 (j := 5) rfl ?_
      refine wm_iald (t := 0) E rfl h dCo_hasInside_54 (fun x54 h => ?_)
      refine wm_isub E dCo_hasInside_55 ?_
      refine wm_aload_n E dCo_hasInside_56 rfl (j := 1) rfl ?_
      refine wm_gR E fd_Co_21 h dCo_hasInside_57 (fun x57 h => ?_)
      refine wm_iload E dCo_hasInside_60 (j := 0) rfl ?_
      refine wm_iald (t := 0) E rfl h dCo_hasInside_62 (fun x62 h => ?_)
      refine wm_aload_n E dCo_hasInside_63 rfl (j := 1) rfl ?_
      refine wm_gR E fd_Co_21 h dCo_hasInside_64 (fun x64 h => ?_)
      refine wm_iload E dCo_hasInside_67 (j := 5) rfl ?_
      refine wm_iald (t := 0) E rfl h dCo_hasInside_69 (fun x69 h => ?_)
      refine wm_isub E dCo_hasInside_70 ?_
      refine wm_imul E dCo_hasInside_71 ?_
      refine wm_iadd E dCo_hasInside_72 ?_
      refine wm_letI h (fun x73 h => ?_)
      refine wm_istore (lv' := [(6, vI x73), (5, vI x17), (0, vR v0), (1, vI v1), (2, vI v2), (3, vI v3), (4, vI v4)]) E dCo_hasInside_73 (by decide) rfl ?_
      refine wm_iload E dCo_hasInside_75 (j := 0) rfl ?_
      refine wm_if_ne (tgt := 95) E dCo_hasInside_77 (by decide) (fun c77 => ?_) (fun c77 => ?_)
      · have h := (if_neg c77).symm.trans h
        refine wm_pick (lv' := [(0, vR v0), (1, vI v1), (2, vI v2), (3, vI v3), (4, vI v4), (5, vI x17), (6, vI x73)]) [2, 3, 4, 5, 6, 1, 0] rfl ?_
        exact w_Co_hasInside_95 E hQ hR hI (fun v0 v1 v2 v3 v4 => B_Co_hasInside_5 μ n v0 v1 v2 v3 v4) ih v0 v1 v2 v3 v4 x17 x73 h
      · have h := (if_pos c77).symm.trans h
        refine wm_aload_n E dCo_hasInside_80 rfl (j := 2) rfl ?_
        refine wm_iload E dCo_hasInside_81 (j := 6) rfl ?_
        refine wm_iload E dCo_hasInside_83 (j := 1) rfl ?_
        refine wm_iload_n E dCo_hasInside_85 rfl (j := 3) rfl ?_
        refine wm_iload_n E dCo_hasInside_86 rfl (j := 4) rfl ?_
        obtain ⟨u87, hr87, h⟩ := b1S h
        obtain ⟨x87, hc87, h⟩ := b1S h
        refine wm_cV (ci := 2) (As := [vI v4, vI x17, vI v1, vI v2]) (st := []) E lk_Co_51 rfl im_Co_isInBox sl_Co_isInBox hr87 (C_Co_isInBox (xl X) X.1 v0 v4 x17 v1 v2 μ _ hc87) rfl rfl (by rw [hR]; decide) (by rw [hR]; decide) (Nat.le_of_ble_eq_true rfl) dCo_hasInside_87 ?_
        refine wm_if_eq (tgt := 95) E dCo_hasInside_90 (by decide) (fun c90 => ?_) (fun c90 => ?_)
        · have h := (if_pos c90).symm.trans h
          refine wm_pick (lv' := [(0, vR v0), (1, vI v1), (2, vI v2), (3, vI v3), (4, vI v4), (5, vI x17), (6, vI x73)]) [2, 3, 4, 5, 6, 1, 0] rfl ?_
          exact w_Co_hasInside_95 E hQ hR hI (fun v0 v1 v2 v3 v4 => B_Co_hasInside_5 μ n v0 v1 v2 v3 v4) ih v0 v1 v2 v3 v4 x17 x73 h
        · have h := (if_neg c90).symm.trans h
          refine wm_iconst (x := 1) E dCo_hasInside_93 (by decide) ?_
          obtain ⟨hz94, h⟩ := gdS h
          exact wm_zret (rt := .boolean) E hQ (rqI1 h) rfl (okZN hz94) (by decide) (by decide) dCo_hasInside_94
def S_Co_hasInside (v0 : Option Nat) (v1 : Int32) (v2 : Int32) (μ : Mem) : Option Int32 := B_Co_hasInside_5 μ fu v0 v1 v2 0 0
set_option maxHeartbeats 4000000 in
set_option maxRecDepth 100000 in
theorem C_Co_hasInside (l : Launch) (G : GG) (v0 : Option Nat) (v1 : Int32) (v2 : Int32) (μ : Mem) (r : Int32) (h : S_Co_hasInside v0 v1 v2 μ = some r) : CT l G y_Co_hasInside prog_3_method_9_code 8 (some .boolean) 2 0 0 45 μ [vR v0, vI v1, vI v2] (some (vI r)) μ := by
  refine wm_met (lv := [(0, vR v0), (1, vI v1), (2, vI v2)]) (by decide +kernel) (Nat.le_of_ble_eq_true rfl) rfl (fun X E hQ hR hI => ?_)
  have h : (B_Co_hasInside_5 μ fu v0 v1 v2 0 0) = some r := h
  refine wm_iconst (x := 0) E dCo_hasInside_0 (by decide) ?_
  refine wm_istore_n (lv' := [(3, vI 0), (0, vR v0), (1, vI v1), (2, vI v2)]) E dCo_hasInside_1 rfl (by decide) rfl ?_
  refine wm_iconst (x := 0) E dCo_hasInside_2 (by decide) ?_
  refine wm_istore (lv' := [(4, vI 0), (3, vI 0), (0, vR v0), (1, vI v1), (2, vI v2)]) E dCo_hasInside_3 (by decide) rfl ?_
  refine wm_pick (lv' := [(0, vR v0), (1, vI v1), (2, vI v2), (3, vI 0), (4, vI 0)]) [2, 3, 4, 1, 0] rfl ?_
  exact w_Co_hasInside_5 E hQ hR hI fu v0 v1 v2 0 0 h
