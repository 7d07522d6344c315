def B_Rs_measure_186   (μ : Mem) : Option (Unit × Mem) := some ((), μ)
set_option maxHeartbeats 4000000 in
set_option maxRecDepth 100000 in
theorem w_Rs_measure_186 {X : CX} (E : EV X prog_9_method_3_code 13 "PlaceFinder$RouteSearch" none) {μ0 μ' : Mem} {r : Unit} (hQ : RQ X 0 0 μ0 none μ') (hR : xR X = { frames := 2, cells := 0, slots := 0, locals := 52 }) (hI : X.2.2.2.2.2.2.2.2.2.2.2.1.name = "measure")   (μ : Mem) (h : B_Rs_measure_186   μ = some (r, μ')) : WM X 13 186 [] [] 0 0 μ := by
  have h : (some ((), μ)) = some (r, μ') := h
  exact wm_vret E hQ rfl (rtM h) (by decide) (by decide) dRs_measure_186
def B_Rs_measure_141  (v0 : Option Nat) (v1 : Option Nat) (v2 : Int32) (v3 : Int32) (v4 : Int32) (v9 : Int32) (v10 : Int32) (μ : Mem) : Option (Unit × Mem) := if 0 < v10 then b1 (rc μ v1 2) (fun _ => b2 (S_Co_squareFrom v1 (v2 + 1) v3 v4 μ) (fun x177 m177 => b1 (rc m177 v0 8) (fun _ => b2 (S_Rs_takeIfBetter v0 v2 v9 ((x177 : Int32).toInt64) 0 1 m177) (fun x183 m183 => B_Rs_measure_186 m183)))) else b1 (rc μ v1 2) (fun _ => b2 (S_Co_squareFrom v1 v2 v3 v4 μ) (fun x154 m154 => b1 (rc m154 v0 8) (fun _ => b2 (S_Rs_takeIfBetter v0 v2 0 ((x154 : Int32).toInt64) 0 1 m154) (fun x160 m160 => B_Rs_measure_186 m160))))
set_option maxHeartbeats 4000000 in
set_option maxRecDepth 100000 in
theorem w_Rs_measure_141 {X : CX} (E : EV X prog_9_method_3_code 13 "PlaceFinder$RouteSearch" none) {μ0 μ' : Mem} {r : Unit} (hQ : RQ X 0 0 μ0 none μ') (hR : xR X = { frames := 2, cells := 0, slots := 0, locals := 52 }) (hI : X.2.2.2.2.2.2.2.2.2.2.2.1.name = "measure")  (v0 : Option Nat) (v1 : Option Nat) (v2 : Int32) (v3 : Int32) (v4 : Int32) (v9 : Int32) (v10 : Int32) (μ : Mem) (h : B_Rs_measure_141  v0 v1 v2 v3 v4 v9 v10 μ = some (r, μ')) : WM X 13 141 [(0, vR v0), (1, vR v1), (2, vI v2), (3, vI v3), (4, vI v4), (9, vI v9), (10, vI v10)] [] 0 0 μ := by
  have h : (if 0 < v10 then b1 (rc μ v1 2) (fun _ => b2 (S_Co_squareFrom v1 (v2 + 1) v3 v4 μ) (fun x177 m177 => b1 (rc m177 v0 8) (fun _ => b2 (S_Rs_takeIfBetter v0 v2 v9 ((x177 : Int32).toInt64) 0 1 m177) (fun x183 m183 => B_Rs_measure_186 m183)))) else b1 (rc μ v1 2) (fun _ => b2 (S_Co_squareFrom v1 v2 v3 v4 μ) (fun x154 m154 => b1 (rc m154 v0 8) (fun _ => b2 (S_Rs_takeIfBetter v0 v2 0 ((x154 : Int32).toInt64) 0 1 m154) (fun x160 m160 => B_Rs_measure_186 m160))))) = some (r, μ') := h
  refine wm_iload E dRs_measure_141 (j := 6) rfl ?_
  refine wm_if_gt (tgt := 166) E dRs_measure_143 (by decide) (fun c143 => ?_) (fun c143 => ?_)
  · have h := (if_pos c143).symm.trans h
    refine wm_aload_n E dRs_measure_166 rfl (j := 0) rfl ?_
    refine wm_iload_n E dRs_measure_167 rfl (j := 2) rfl ?_
    refine wm_iload E dRs_measure_168 (j := 5) rfl ?_
    refine wm_aload_n E dRs_measure_170 rfl (j := 1) rfl ?_
    refine wm_iload_n E dRs_measure_171 rfl (j := 2) rfl ?_
    refine wm_iconst (x := 1) E dRs_measure_172 (by decide) ?_
    refine wm_iadd E dRs_measure_173 ?_
    refine wm_iload_n E dRs_measure_174 rfl (j := 3) rfl ?_
    refine wm_iload E dRs_measure_175 (j := 4) rfl ?_
    obtain ⟨u177, hr177, h⟩ := b1S h
    obtain ⟨x177, m177, hc177, h⟩ := b2S h
    refine wm_cV (ci := 2) (As := [vI (v2 + 1), vI v3, vI v4]) (st := [vI v9, vI v2, vR v0]) E lk_Rs_34 rfl im_Co_squareFrom sl_Co_squareFrom hr177 (C_Co_squareFrom (xl X) X.1 v1 (v2 + 1) v3 v4 μ _ _ hc177) rfl rfl (by rw [hR]; decide) (by rw [hR]; decide) (Nat.le_of_ble_eq_true rfl) dRs_measure_177 ?_
    refine wm_i2l E dRs_measure_180 ?_
    refine wm_lconst (x := 0) E dRs_measure_181 (by decide) ?_
    refine wm_lconst (x := 1) E dRs_measure_182 (by decide) ?_
    obtain ⟨u183, hr183, h⟩ := b1S h
    obtain ⟨x183, m183, hc183, h⟩ := b2S h
    refine wm_cV (ci := 8) (As := [vI v2, vI v9, vL ((x177 : Int32).toInt64), vL 0, vL 1]) (st := []) E lk_Rs_30 rfl im_Rs_takeIfBetter sl_Rs_takeIfBetter hr183 (C_Rs_takeIfBetter (xl X) X.1 v0 v2 v9 ((x177 : Int32).toInt64) 0 1 m177 _ _ hc183) rfl rfl (by rw [hR]; decide) (by rw [hR]; decide) (Nat.le_of_ble_eq_true rfl) dRs_measure_183 ?_
    refine wm_pick (lv' := []) [] rfl ?_
    exact w_Rs_measure_186 E hQ hR hI m183 h
  · have h := (if_neg c143).symm.trans h
    refine wm_aload_n E dRs_measure_146 rfl (j := 0) rfl ?_
    refine wm_iload_n E dRs_measure_147 rfl (j := 2) rfl ?_
    refine wm_iconst (x := 0) E dRs_measure_148 (by decide) ?_
    refine wm_aload_n E dRs_measure_149 rfl (j := 1) rfl ?_
    refine wm_iload_n E dRs_measure_150 rfl (j := 2) rfl ?_
    refine wm_iload_n E dRs_measure_151 rfl (j := 3) rfl ?_
    refine wm_iload E dRs_measure_152 (j := 4) rfl ?_
    obtain ⟨u154, hr154, h⟩ := b1S h
    obtain ⟨x154, m154, hc154, h⟩ := b2S h
    refine wm_cV (ci := 2) (As := [vI v2, vI v3, vI v4]) (st := [vI 0, vI v2, vR v0]) E lk_Rs_34 rfl im_Co_squareFrom sl_Co_squareFrom hr154 (C_Co_squareFrom (xl X) X.1 v1 v2 v3 v4 μ _ _ hc154) rfl rfl (by rw [hR]; decide) (by rw [hR]; decide) (Nat.le_of_ble_eq_true rfl) dRs_measure_154 ?_
    refine wm_i2l E dRs_measure_157 ?_
    refine wm_lconst (x := 0) E dRs_measure_158 (by decide) ?_
    refine wm_lconst (x := 1) E dRs_measure_159 (by decide) ?_
    obtain ⟨u160, hr160, h⟩ := b1S h
    obtain ⟨x160, m160, hc160, h⟩ := b2S h
    refine wm_cV (ci := 8) (As := [vI v2, vI 0, vL ((x154 : Int32).toInt64), vL 0, vL 1]) (st := []) E lk_Rs_30 rfl im_Rs_takeIfBetter sl_Rs_takeIfBetter hr160 (C_Rs_takeIfBetter (xl X) X.1 v0 v2 0 ((x154 : Int32).toInt64) 0 1 m154 _ _ hc160) rfl rfl (by rw [hR]; decide) (by rw [hR]; decide) (Nat.le_of_ble_eq_true rfl) dRs_measure_160 ?_
    refine wm_goto (tgt := 186) E dRs_measure_163 (by decide) ?_
    refine wm_pick (lv' := []) [] rfl ?_
    exact w_Rs_measure_186 E hQ hR hI m160 h
def S_Rs_measure (v0 : Option Nat) (v1 : Option Nat) (v2 : Int32) (v3 : Int32) (v4 : Int32) (μ : Mem) : Option (Unit × Mem) := b1 (gR μ v1 2 1) (fun x1 => b1 (aI μ x1 0 (v2 + 1)) (fun x7 => b1 (gR μ v1 2 1) (fun x9 => b1 (aI μ x9 0 v2) (fun x13 => b0 (x7 - x13) (fun x15 => b1 (gR μ v1 2 2) (fun x18 => b1 (aI μ x18 0 (v2 + 1)) (fun x24 => b1 (gR μ v1 2 2) (fun x26 => b1 (aI μ x26 0 v2) (fun x30 => b0 (x24 - x30) (fun x32 => b1 (gR μ v1 2 1) (fun x36 => b1 (aI μ x36 0 v2) (fun x40 => b0 (v3 - x40) (fun x42 => b1 (gR μ v1 2 2) (fun x47 => b1 (aI μ x47 0 v2) (fun x51 => b0 (v4 - x51) (fun x53 => b0 ((x15 * x15) + (x32 * x32)) (fun x66 => b0 ((x42 * x15) + (x53 * x32)) (fun x79 => if x79 ≤ 0 then B_Rs_measure_141 v0 v1 v2 v3 v4 x66 x79 μ else if x66 ≤ x79 then B_Rs_measure_141 v0 v1 v2 v3 v4 x66 x79 μ else b0 ((((x15 : Int32).toInt64) * ((x53 : Int32).toInt64)) - (((x32 : Int32).toInt64) * ((x42 : Int32).toInt64))) (fun x108 => gd ((x66 : Int32).toInt64 = 0) (gd ((x66 : Int32).toInt64 = 0) (b1 (rc μ v0 8) (fun _ => b2 (S_Rs_takeIfBetter v0 v2 x79 ((x108 * x108) / ((x66 : Int32).toInt64)) ((x108 * x108) - (x108 * x108) / ((x66 : Int32).toInt64) * ((x66 : Int32).toInt64)) ((x66 : Int32).toInt64) μ) (fun x135 m135 => B_Rs_measure_186 m135)))))))))))))))))))))))
set_option maxHeartbeats 4000000 in
set_option maxRecDepth 100000 in
theorem C_Rs_measure (l : Launch) (G : GG) (v0 : Option Nat) (v1 : Option Nat) (v2 : Int32) (v3 : Int32) (v4 : Int32) (μ μ' : Mem) (r : Unit) (h : S_Rs_measure v0 v1 v2 v3 v4 μ = some (r, μ')) : CT l G y_Rs_measure prog_9_method_3_code 13 none 2 0 0 52 μ [vR v0, vR v1, vI v2, vI v3, vI v4] none μ' := by
  refine wm_met (lv := [(0, vR v0), (1, vR v1), (2, vI v2), (3, vI v3), (4, vI v4)]) (by decide +kernel) (Nat.le_of_ble_eq_true rfl) rfl (fun X E hQ hR hI => ?_)
  have h : (b1 (gR μ v1 2 1) (fun x1 => b1 (aI μ x1 0 (v2 + 1)) (fun x7 => b1 (gR μ v1 2 1) (fun x9 => b1 (aI μ x9 0 v2) (fun x13 => b0 (x7 - x13) (fun x15 => b1 (gR μ v1 2 2) (fun x18 => b1 (aI μ x18 0 (v2 + 1)) (fun x24 => b1 (gR μ v1 2 2) (fun x26 => b1 (aI μ x26 0 v2) (fun x30 => b0 (x24 - x30) (fun x32 => b1 (gR μ v1 2 1) (fun x36 => b1 (aI μ x36 0 v2) (fun x40 => b0 (v3 - x40) (fun x42 => b1 (gR μ v1 2 2) (fun x47 => b1 (aI μ x47 0 v2) (fun x51 => b0 (v4 - x51) (fun x53 => b0 ((x15 * x15) + (x32 * x32)) (fun x66 => b0 ((x42 * x15) + (x53 * x32)) (fun x79 => if x79 ≤ 0 then B_Rs_measure_141 v0 v1 v2 v3 v4 x66 x79 μ else if x66 ≤ x79 then B_Rs_measure_141 v0 v1 v2 v3 v4 x66 x79 μ else b0 ((((x15 : Int32).toInt64) * ((x53 : Int32).toInt64)) - (((x32 : Int32).toInt64) * ((x42 : Int32).toInt64))) (fun x108 => gd ((x66 : Int32).toInt64 = 0) (gd ((x66 : Int32).toInt64 = 0) (b1 (rc μ v0 8) (fun _ => b2 (S_Rs_takeIfBetter v0 v2 x79 ((x108 * x108) / ((x66 : Int32).toInt64)) ((x108 * x108) - (x108 * x108) / ((x66 : Int32).toInt64) * ((x66 : Int32).toInt64)) ((x66 : Int32).toInt64) μ) (fun x135 m135 => B_Rs_measure_186 m135)))))))))))))))))))))))) = some (r, μ') := h
  refine wm_aload_n E dRs_measure_0 rfl (j := 1) rfl ?_
  refine wm_gR E fd_Rs_19 h dRs_measure_1 (fun x1 h => ?_)
  refine wm_iload_n E dRs_measure_4 rfl (j := 2) rfl ?_
  refine wm_iconst (x := 1) E dRs_measure_5 (by decide) ?_
  refine wm_iadd E dRs_measure_6 ?_
  refine wm_iald (t := 0) E rfl h dRs_measure_7 (fun x7 h => ?_)
  refine wm_aload_n E dRs_measure_8 rfl (j := 1) rfl ?_
  refine wm_gR E fd_Rs_19 h dRs_measure_9 (fun x9 h => ?_)
  refine wm_iload_n E dRs_measure_12 rfl (j := 2) rfl ?_
  refine wm_iald (t := 0) E rfl h dRs_measure_13 (fun x13 h => ?_)
  refine wm_isub E dRs_measure_14 ?_
  refine wm_letI h (fun x15 h => ?_)
  refine wm_istore (lv' := [(5, vI x15), (0, vR v0), (1, vR v1), (2, vI v2), (3, vI v3), (4, vI v4)]) E dRs_measure_15 (by decide) rfl ?_
  refine wm_aload_n E dRs_measure_17 rfl (j := 2) rfl ?_
  refine wm_gR E fd_Rs_23 h dRs_measure_18 (fun x18 h => ?_)
  refine wm_iload_n E dRs_measure_21 rfl (j := 3) rfl ?_
  refine wm_iconst (x := 1) E dRs_measure_22 (by decide) ?_
  refine wm_iadd E dRs_measure_23 ?_
  refine wm_iald (t := 0) E rfl h dRs_measure_24 (fun x24 h => ?_)
  refine wm_aload_n E dRs_measure_25 rfl (j := 2) rfl ?_
  refine wm_gR E fd_Rs_23 h dRs_measure_26 (fun x26 h => ?_)
  refine wm_iload_n E dRs_measure_29 rfl (j := 3) rfl ?_
  refine wm_iald (t := 0) E rfl h dRs_measure_30 (fun x30 h => ?_)
  refine wm_isub E dRs_measure_31 ?_
  refine wm_letI h (fun x32 h => ?_)
  refine wm_istore (lv' := [(6, vI x32), (5, vI x15), (0, vR v0), (1, vR v1), (2, vI v2), (3, vI v3), (4, vI v4)]) E dRs_measure_32 (by decide) rfl ?_
  refine wm_iload_n E dRs_measure_34 rfl (j := 5) rfl ?_
  refine wm_aload_n E dRs_measure_35 rfl (j := 3) rfl ?_
  refine wm_gR E fd_Rs_19 h dRs_measure_36 (fun x36 h => ?_)
  refine wm_iload_n E dRs_measure_39 rfl (j := 4) rfl ?_
  refine wm_iald (t := 0) E rfl h dRs_measure_40 (fun x40 h => ?_)
  refine wm_isub E dRs_measure_41 ?_
  refine wm_letI h (fun x42 h => ?_)
  refine wm_istore (lv' := [(7, vI x42), (6, vI x32), (5, vI x15), (0, vR v0), (1, vR v1), (2, vI v2), (3, vI v3), (4, vI v4)]) E dRs_measure_42 (by decide) rfl ?_
  refine wm_iload E dRs_measure_44 (j := 7) rfl ?_
  refine wm_aload_n E dRs_measure_46 rfl (j := 4) rfl ?_
  refine wm_gR E fd_Rs_23 h dRs_measure_47 (fun x47 h => ?_)
  refine wm_iload_n E dRs_measure_50 rfl (j := 5) rfl ?_
  refine wm_iald (t := 0) E rfl h dRs_measure_51 (fun x51 h => ?_)
  refine wm_isub E dRs_measure_52 ?_
  refine wm_letI h (fun x53 h => ?_)
  refine wm_istore (lv' := [(8, vI x53), (7, vI x42), (6, vI x32), (5, vI x15), (0, vR v0), (1, vR v1), (2, vI v2), (3, vI v3), (4, vI v4)]) E dRs_measure_53 (by decide) rfl ?_
  refine wm_iload E dRs_measure_55 (j := 3) rfl ?_
  refine wm_iload E dRs_measure_57 (j := 3) rfl ?_
  refine wm_imul E dRs_measure_59 ?_
  refine wm_iload E dRs_measure_60 (j := 2) rfl ?_
  refine wm_iload E dRs_measure_62 (j := 2) rfl ?_
  refine wm_imul E dRs_measure_64 ?_
  refine wm_iadd E dRs_measure_65 ?_
  refine wm_letI h (fun x66 h => ?_)
  refine wm_istore (lv' := [(9, vI x66), (8, vI x53), (7, vI x42), (6, vI x32), (5, vI x15), (0, vR v0), (1, vR v1), (2, vI v2), (3, vI v3), (4, vI v4)]) E dRs_measure_66 (by decide) rfl ?_
  refine wm_iload E dRs_measure_68 (j := 2) rfl ?_
  refine wm_iload E dRs_measure_70 (j := 4) rfl ?_
  refine wm_imul E dRs_measure_72 ?_
  refine wm_iload E dRs_measure_73 (j := 1) rfl ?_
  refine wm_iload E dRs_measure_75 (j := 3) rfl ?_
  refine wm_imul E dRs_measure_77 ?_
  refine wm_iadd E dRs_measure_78 ?_
  refine wm_letI h (fun x79 h => ?_)
  refine wm_istore (lv' := [(10, vI x79), (9, vI x66), (8, vI x53), (7, vI x42), (6, vI x32), (5, vI x15), (0, vR v0), (1, vR v1), (2, vI v2), (3, vI v3), (4, vI v4)]) E dRs_measure_79 (by decide) rfl ?_
  refine wm_iload E dRs_measure_81 (j := 0) rfl ?_
  refine wm_if_le (tgt := 141) E dRs_measure_83 (by decide) (fun c83 => ?_) (fun c83 => ?_)
  · have h := (if_pos c83).symm.trans h
    refine wm_pick (lv' := [(0, vR v0), (1, vR v1), (2, vI v2), (3, vI v3), (4, vI v4), (9, vI x66), (10, vI x79)]) [6, 7, 8, 9, 10, 1, 0] rfl ?_
    exact w_Rs_measure_141 E hQ hR hI v0 v1 v2 v3 v4 x66 x79 μ h
  · have h := (if_neg c83).symm.trans h
    refine wm_iload E dRs_measure_86 (j := 0) rfl ?_
    refine wm_iload E dRs_measure_88 (j := 1) rfl ?_
    refine wm_icmp_ge (tgt := 141) E dRs_measure_90 (by decide) (fun c90 => ?_) (fun c90 => ?_)
    · have h := (if_pos c90).symm.trans h
      refine wm_pick (lv' := [(0, vR v0), (1, vR v1), (2, vI v2), (3, vI v3), (4, vI v4), (9, vI x66), (10, vI x79)]) [6, 7, 8, 9, 10, 1, 0] rfl ?_
      exact w_Rs_measure_141 E hQ hR hI v0 v1 v2 v3 v4 x66 x79 μ h
    · have h := (if_neg c90).symm.trans h
      refine wm_iload E dRs_measure_93 (j := 5) rfl ?_
      refine wm_i2l E dRs_measure_95 ?_
      refine wm_iload E dRs_measure_96 (j := 2) rfl ?_
      refine wm_i2l E dRs_measure_98 ?_
      refine wm_lmul E dRs_measure_99 ?_
      refine wm_iload E dRs_measure_100 (j := 4) rfl ?_
      refine wm_i2l E dRs_measure_102 ?_
      refine wm_iload E dRs_measure_103 (j := 3) rfl ?_
      refine wm_i2l E dRs_measure_105 ?_
      refine wm_lmul E dRs_measure_106 ?_
      refine wm_lsub E dRs_measure_107 ?_
      refine wm_letJ h (fun x108 h => ?_)
      refine wm_lstore (lv' := [(11, vL x108), (10, vI x79), (9, vI x66), (8, vI x53), (7, vI x42), (6, vI x32), (5, vI x15), (0, vR v0), (1, vR v1), (2, vI v2), (3, vI v3), (4, vI v4)]) E dRs_measure_108 (by decide) rfl ?_
      refine wm_aload_n E dRs_measure_110 rfl (j := 7) rfl ?_
      refine wm_iload_n E dRs_measure_111 rfl (j := 9) rfl ?_
      refine wm_iload E dRs_measure_112 (j := 1) rfl ?_
      refine wm_lload E dRs_measure_114 (j := 0) rfl ?_
      refine wm_lload E dRs_measure_116 (j := 0) rfl ?_
      refine wm_lmul E dRs_measure_118 ?_
      refine wm_iload E dRs_measure_119 (j := 2) rfl ?_
      refine wm_i2l E dRs_measure_121 ?_
      obtain ⟨hz122, h⟩ := gdS h
      refine wm_ldiv E dRs_measure_122 hz122 ?_
      refine wm_lload E dRs_measure_123 (j := 0) rfl ?_
      refine wm_lload E dRs_measure_125 (j := 0) rfl ?_
      refine wm_lmul E dRs_measure_127 ?_
      refine wm_iload E dRs_measure_128 (j := 2) rfl ?_
      refine wm_i2l E dRs_measure_130 ?_
      obtain ⟨hz131, h⟩ := gdS h
      refine wm_lrem E dRs_measure_131 hz131 ?_
      refine wm_iload E dRs_measure_132 (j := 2) rfl ?_
      refine wm_i2l E dRs_measure_134 ?_
      obtain ⟨u135, hr135, h⟩ := b1S h
      obtain ⟨x135, m135, hc135, h⟩ := b2S h
      refine wm_cV (ci := 8) (As := [vI v2, vI x79, vL ((x108 * x108) / ((x66 : Int32).toInt64)), vL ((x108 * x108) - (x108 * x108) / ((x66 : Int32).toInt64) * ((x66 : Int32).toInt64)), vL ((x66 : Int32).toInt64)]) (st := []) E lk_Rs_30 rfl im_Rs_takeIfBetter sl_Rs_takeIfBetter hr135 (C_Rs_takeIfBetter (xl X) X.1 v0 v2 x79 ((x108 * x108) / ((x66 : Int32).toInt64)) ((x108 * x108) - (x108 * x108) / ((x66 : Int32).toInt64) * ((x66 : Int32).toInt64)) ((x66 : Int32).toInt64) μ _ _ hc135) rfl rfl (by rw [hR]; decide) (by rw [hR]; decide) (Nat.le_of_ble_eq_true rfl) dRs_measure_135 ?_
      refine wm_goto (tgt := 186) E dRs_measure_138 (by decide) ?_
      refine wm_pick (lv' := []) [] rfl ?_
      exact w_Rs_measure_186 E hQ hR hI m135 h
def B_Rs_start_20 (k7 : Option Nat → Option Nat → Option Nat → Int32 → Mem → Option (Unit × Mem)) : Nat → Option Nat → Option Nat → Option Nat → Int32 → Int32 → Mem → Option (Unit × Mem)
  | 0, _, _, _, _, _, _ => none
  | n + 1, v0, v1, v2, v3, v4, μ => b1 (gI μ v2 2 0) (fun x23 => if x23 ≤ v4 then k7 v0 v1 v2 (v3 + 1) μ else b1 (gR μ v2 2 1) (fun x33 => b1 (aI μ x33 0 v4) (fun x38 => b1 (gR μ v2 2 2) (fun x40 => b1 (aI μ x40 0 v4) (fun x45 => b1 (rc μ v0 8) (fun _ => b2 (S_Rs_measure v0 v1 v3 x38 x45 μ) (fun x46 m46 => (fun v0 v1 v2 v3 v4 μ => B_Rs_start_20 k7 n v0 v1 v2 v3 v4 μ) v0 v1 v2 v3 (v4 + 1) m46)))))))
set_option maxHeartbeats 4000000 in
set_option maxRecDepth 100000 in
theorem w_Rs_start_20 {X : CX} (E : EV X prog_9_method_2_code 5 "PlaceFinder$RouteSearch" none) {μ0 μ' : Mem} {r : Unit} (hQ : RQ X 0 0 μ0 none μ') (hR : xR X = { frames := 3, cells := 0, slots := 0, locals := 84 }) (hI : X.2.2.2.2.2.2.2.2.2.2.2.1.name = "start") (k7 : Option Nat → Option Nat → Option Nat → Int32 → Mem → Option (Unit × Mem)) (hk7 : ∀ (v0 : Option Nat) (v1 : Option Nat) (v2 : Option Nat) (v3 : Int32) (μ : Mem), k7 v0 v1 v2 v3 μ = some (r, μ') → WM X 5 7 [(0, vR v0), (1, vR v1), (2, vR v2), (3, vI v3)] [] 0 0 μ) (n : Nat) : ∀ (v0 : Option Nat) (v1 : Option Nat) (v2 : Option Nat) (v3 : Int32) (v4 : Int32) (μ : Mem) (h : B_Rs_start_20 k7 n v0 v1 v2 v3 v4 μ = some (r, μ')), WM X 5 20 [(0, vR v0), (1, vR v1), (2, vR v2), (3, vI v3), (4, vI v4)] [] 0 0 μ := by
  induction n with
  | zero => intro v0 v1 v2 v3 v4 μ h; cases h
  | succ n ih =>
    intro v0 v1 v2 v3 v4 μ h
    have h : (b1 (gI μ v2 2 0) (fun x23 => if x23 ≤ v4 then k7 v0 v1 v2 (v3 + 1) μ else b1 (gR μ v2 2 1) (fun x33 => b1 (aI μ x33 0 v4) (fun x38 => b1 (gR μ v2 2 2) (fun x40 => b1 (aI μ x40 0 v4) (fun x45 => b1 (rc μ v0 8) (fun _ => b2 (S_Rs_measure v0 v1 v3 x38 x45 μ) (fun x46 m46 => (fun v0 v1 v2 v3 v4 μ => B_Rs_start_20 k7 n v0 v1 v2 v3 v4 μ) v0 v1 v2 v3 (v4 + 1) m46)))))))) = some (r, μ') := h
    refine wm_iload E dRs_start_20 (j := 4) rfl ?_
    refine wm_aload_n E dRs_start_22 rfl (j := 2) rfl ?_
    refine wm_gI E fd_Rs_13 h dRs_start_23 (fun x23 h => ?_)
    refine wm_icmp_ge (tgt := 55) E dRs_start_26 (by decide) (fun c26 => ?_) (fun c26 => ?_)
    · have h := (if_pos c26).symm.trans h
      refine wm_iinc (lv' := [(3, vI (v3 + 1)), (0, vR v0), (1, vR v1), (2, vR v2), (4, vI v4)]) (d := 1) E dRs_start_55 (by decide) (j := 3) rfl (by decide) rfl ?_
      refine wm_goto (tgt := 7) E dRs_start_58 (by decide) ?_
      refine wm_pick (lv' := [(0, vR v0), (1, vR v1), (2, vR v2), (3, vI (v3 + 1))]) [1, 2, 3, 0] rfl ?_
      exact hk7 v0 v1 v2 (v3 + 1) μ h
    · have h := (if_neg c26).symm.trans h
      refine wm_aload_n E dRs_start_29 rfl (j := 0) rfl ?_
      refine wm_aload_n E dRs_start_30 rfl (j := 1) rfl ?_
      refine wm_iload_n E dRs_start_31 rfl (j := 3) rfl ?_
      refine wm_aload_n E dRs_start_32 rfl (j := 2) rfl ?_
      refine wm_gR E fd_Rs_19 h dRs_start_33 (fun x33 h => ?_)
      refine wm_iload E dRs_start_36 (j := 4) rfl ?_
      refine wm_iald (t := 0) E rfl h dRs_start_38 (fun x38 h => ?_)
      refine wm_aload_n E dRs_start_39 rfl (j := 2) rfl ?_
      refine wm_gR E fd_Rs_23 h dRs_start_40 (fun x40 h => ?_)
      refine wm_iload E dRs_start_43 (j := 4) rfl ?_
      refine wm_iald (t := 0) E rfl h dRs_start_45 (fun x45 h => ?_)
      obtain ⟨u46, hr46, h⟩ := b1S h
      obtain ⟨x46, m46, hc46, h⟩ := b2S h
      refine wm_cV (ci := 8) (As := [vR v1, vI v3, vI x38, vI x45]) (st := []) E lk_Rs_26 rfl im_Rs_measure sl_Rs_measure hr46 (C_Rs_measure (xl X) X.1 v0 v1 v3 x38 x45 μ _ _ hc46) rfl rfl (by rw [hR]; decide) (by rw [hR]; decide) (Nat.le_of_ble_eq_true rfl) dRs_start_46 ?_
      refine wm_iinc (lv' := [(4, vI (v4 + 1)), (0, vR v0), (1, vR v1), (2, vR v2), (3, vI v3)]) (d := 1) E dRs_start_49 (by decide) (j := 4) rfl (by decide) rfl ?_
      refine wm_goto (tgt := 20) E dRs_start_52 (by decide) ?_
      refine wm_pick (lv' := [(0, vR v0), (1, vR v1), (2, vR v2), (3, vI v3), (4, vI (v4 + 1))]) [1, 2, 3, 4, 0] rfl ?_
      exact ih v0 v1 v2 v3 (v4 + 1) m46 h
def B_Rs_start_7  : Nat → Option Nat → Option Nat → Option Nat → Int32 → Mem → Option (Unit × Mem)
  | 0, _, _, _, _, _ => none
  | n + 1, v0, v1, v2, v3, μ => b1 (gI μ v1 2 0) (fun x11 => if x11 ≤ (v3 + 1) then some ((), μ) else B_Rs_start_20 (fun v0 v1 v2 v3 μ => B_Rs_start_7 n v0 v1 v2 v3 μ) fu v0 v1 v2 v3 0 μ)
set_option maxHeartbeats 4000000 in
set_option maxRecDepth 100000 in
theorem w_Rs_start_7 {X : CX} (E : EV X prog_9_method_2_code 5 "PlaceFinder$RouteSearch" none) {μ0 μ' : Mem} {r : Unit} (hQ : RQ X 0 0 μ0 none μ') (hR : xR X = { frames := 3, cells := 0, slots := 0, locals := 84 }) (hI : X.2.2.2.2.2.2.2.2.2.2.2.1.name = "start")  (n : Nat) : ∀ (v0 : Option Nat) (v1 : Option Nat) (v2 : Option Nat) (v3 : Int32) (μ : Mem) (h : B_Rs_start_7  n v0 v1 v2 v3 μ = some (r, μ')), WM X 5 7 [(0, vR v0), (1, vR v1), (2, vR v2), (3, vI v3)] [] 0 0 μ := by
  induction n with
  | zero => intro v0 v1 v2 v3 μ h; cases h
  | succ n ih =>
    intro v0 v1 v2 v3 μ h
    have h : (b1 (gI μ v1 2 0) (fun x11 => if x11 ≤ (v3 + 1) then some ((), μ) else B_Rs_start_20 (fun v0 v1 v2 v3 μ => B_Rs_start_7 n v0 v1 v2 v3 μ) fu v0 v1 v2 v3 0 μ)) = some (r, μ') := h
    refine wm_iload_n E dRs_start_7 rfl (j := 3) rfl ?_
    refine wm_iconst (x := 1) E dRs_start_8 (by decide) ?_
    refine wm_iadd E dRs_start_9 ?_
    refine wm_aload_n E dRs_start_10 rfl (j := 1) rfl ?_
    refine wm_gI E fd_Rs_13 h dRs_start_11 (fun x11 h => ?_)
    refine wm_icmp_ge (tgt := 61) E dRs_start_14 (by decide) (fun c14 => ?_) (fun c14 => ?_)
    · have h := (if_pos c14).symm.trans h
      exact wm_vret E hQ rfl (rtM h) (by decide) (by decide) dRs_start_61
    · have h := (if_neg c14).symm.trans h
      refine wm_iconst (x := 0) E dRs_start_17 (by decide) ?_
      refine wm_istore (lv' := [(4, vI 0), (0, vR v0), (1, vR v1), (2, vR v2), (3, vI v3)]) E dRs_start_18 (by decide) rfl ?_
      refine wm_pick (lv' := [(0, vR v0), (1, vR v1), (2, vR v2), (3, vI v3), (4, vI 0)]) [1, 2, 3, 4, 0] rfl ?_
      exact w_Rs_start_20 E hQ hR hI (fun v0 v1 v2 v3 μ => B_Rs_start_7 n v0 v1 v2 v3 μ) ih fu v0 v1 v2 v3 0 μ h
def S_Rs_start (v0 : Option Nat) (v1 : Option Nat) (v2 : Option Nat) (μ : Mem) : Option (Unit × Mem) := b1 (pZ μ v0 8 0 0) (fun m2 => B_Rs_start_7 fu v0 v1 v2 0 m2)
set_option maxHeartbeats 4000000 in
set_option maxRecDepth 100000 in
theorem C_Rs_start (l : Launch) (G : GG) (v0 : Option Nat) (v1 : Option Nat) (v2 : Option Nat) (μ μ' : Mem) (r : Unit) (h : S_Rs_start v0 v1 v2 μ = some (r, μ')) : CT l G y_Rs_start prog_9_method_2_code 5 none 3 0 0 84 μ [vR v0, vR v1, vR v2] none μ' := by
  refine wm_met (lv := [(0, vR v0), (1, vR v1), (2, vR v2)]) (by decide +kernel) (Nat.le_of_ble_eq_true rfl) rfl (fun X E hQ hR hI => ?_)
  have h : (b1 (pZ μ v0 8 0 0) (fun m2 => B_Rs_start_7 fu v0 v1 v2 0 m2)) = some (r, μ') := h
  refine wm_aload_n E dRs_start_0 rfl (j := 0) rfl ?_
  refine wm_iconst (x := 0) E dRs_start_1 (by decide) ?_
  refine wm_pZ E fp_Rs_7 (fun q => by cases q) h dRs_start_2 (fun m2 h => ?_)
  refine wm_iconst (x := 0) E dRs_start_5 (by decide) ?_
  refine wm_istore_n (lv' := [(3, vI 0), (0, vR v0), (1, vR v1), (2, vR v2)]) E dRs_start_6 rfl (by decide) rfl ?_
  refine wm_pick (lv' := [(0, vR v0), (1, vR v1), (2, vR v2), (3, vI 0)]) [1, 2, 3, 0] rfl ?_
  exact w_Rs_start_7 E hQ hR hI fu v0 v1 v2 0 m2 h
def B_Rs_isWithin_45  (s0 : Int32) (μ : Mem) : Option (Int32 × Mem) := gd (¬ okZ s0 = true) (some (s0, μ))
set_option maxHeartbeats 4000000 in
set_option maxRecDepth 100000 in
theorem w_Rs_isWithin_45 {X : CX} (E : EV X prog_9_method_5_code 4 "PlaceFinder$RouteSearch" (some .boolean)) {μ0 μ' : Mem} {r : Int32} (hQ : RQ X 0 0 μ0 (some (vI r)) μ') (hR : xR X = { frames := 0, cells := 0, slots := 0, locals := 0 }) (hI : X.2.2.2.2.2.2.2.2.2.2.2.1.name = "isWithin")  (s0 : Int32) (μ : Mem) (h : B_Rs_isWithin_45  s0 μ = some (r, μ')) : WM X 4 45 [] [vI s0] 0 0 μ := by
  have h : (gd (¬ okZ s0 = true) (some (s0, μ))) = some (r, μ') := h
  obtain ⟨hz45, h⟩ := gdS h
  exact wm_zret (rt := .boolean) E hQ (rtI h) (rtM h) (okZN hz45) (by decide) (by decide) dRs_isWithin_45
def B_Rs_isWithin_44   (μ : Mem) : Option (Int32 × Mem) := B_Rs_isWithin_45 0 μ
set_option maxHeartbeats 4000000 in
set_option maxRecDepth 100000 in
theorem w_Rs_isWithin_44 {X : CX} (E : EV X prog_9_method_5_code 4 "PlaceFinder$RouteSearch" (some .boolean)) {μ0 μ' : Mem} {r : Int32} (hQ : RQ X 0 0 μ0 (some (vI r)) μ') (hR : xR X = { frames := 0, cells := 0, slots := 0, locals := 0 }) (hI : X.2.2.2.2.2.2.2.2.2.2.2.1.name = "isWithin")   (μ : Mem) (h : B_Rs_isWithin_44   μ = some (r, μ')) : WM X 4 44 [] [] 0 0 μ := by
  have h : (B_Rs_isWithin_45 0 μ) = some (r, μ') := h
  refine wm_iconst (x := 0) E dRs_isWithin_44 (by decide) ?_
  refine wm_pick (lv' := []) [] rfl ?_
  exact w_Rs_isWithin_45 E hQ hR hI 0 μ h
def B_Rs_isWithin_40   (μ : Mem) : Option (Int32 × Mem) := B_Rs_isWithin_45 1 μ
set_option maxHeartbeats 4000000 in
set_option maxRecDepth 100000 in
theorem w_Rs_isWithin_40 {X : CX} (E : EV X prog_9_method_5_code 4 "PlaceFinder$RouteSearch" (some .boolean)) {μ0 μ' : Mem} {r : Int32} (hQ : RQ X 0 0 μ0 (some (vI r)) μ') (hR : xR X = { frames := 0, cells := 0, slots := 0, locals := 0 }) (hI : X.2.2.2.2.2.2.2.2.2.2.2.1.name = "isWithin")   (μ : Mem) (h : B_Rs_isWithin_40   μ = some (r, μ')) : WM X 4 40 [] [] 0 0 μ := by
  have h : (B_Rs_isWithin_45 1 μ) = some (r, μ') := h
  refine wm_iconst (x := 1) E dRs_isWithin_40 (by decide) ?_
  refine wm_goto (tgt := 45) E dRs_isWithin_41 (by decide) ?_
  refine wm_pick (lv' := []) [] rfl ?_
  exact w_Rs_isWithin_45 E hQ hR hI 1 μ h
def S_Rs_isWithin (v0 : Option Nat) (v1 : Int32) (μ : Mem) : Option (Int32 × Mem) := b0 (((v1 : Int32).toInt64) * ((v1 : Int32).toInt64)) (fun x5 => b1 (gI μ v0 8 0) (fun x7 => if x7 = 0 then B_Rs_isWithin_44 μ else b1 (gL μ v0 8 3) (fun x14 => if (lg_cmp x14 x5) < 0 then B_Rs_isWithin_40 μ else b1 (gL μ v0 8 3) (fun x23 => if (lg_cmp x23 x5) = 0 then b1 (gL μ v0 8 4) (fun x32 => if (lg_cmp x32 0) = 0 then B_Rs_isWithin_40 μ else B_Rs_isWithin_44 μ) else B_Rs_isWithin_44 μ))))
set_option maxHeartbeats 4000000 in
set_option maxRecDepth 100000 in
theorem C_Rs_isWithin (l : Launch) (G : GG) (v0 : Option Nat) (v1 : Int32) (μ μ' : Mem) (r : Int32) (h : S_Rs_isWithin v0 v1 μ = some (r, μ')) : CT l G y_Rs_isWithin prog_9_method_5_code 4 (some .boolean) 0 0 0 0 μ [vR v0, vI v1] (some (vI r)) μ' := by
  refine wm_met (lv := [(0, vR v0), (1, vI v1)]) (by decide +kernel) (Nat.le_of_ble_eq_true rfl) rfl (fun X E hQ hR hI => ?_)
  have h : (b0 (((v1 : Int32).toInt64) * ((v1 : Int32).toInt64)) (fun x5 => b1 (gI μ v0 8 0) (fun x7 => if x7 = 0 then B_Rs_isWithin_44 μ else b1 (gL μ v0 8 3) (fun x14 => if (lg_cmp x14 x5) < 0 then B_Rs_isWithin_40 μ else b1 (gL μ v0 8 3) (fun x23 => if (lg_cmp x23 x5) = 0 then b1 (gL μ v0 8 4) (fun x32 => if (lg_cmp x32 0) = 0 then B_Rs_isWithin_40 μ else B_Rs_isWithin_44 μ) else B_Rs_isWithin_44 μ))))) = some (r, μ') := h
  refine wm_iload_n E dRs_isWithin_0 rfl (j := 1) rfl ?_
  refine wm_i2l E dRs_isWithin_1 ?_
  refine wm_iload_n E dRs_isWithin_2 rfl (j := 1) rfl ?_
  refine wm_i2l E dRs_isWithin_3 ?_
  refine wm_lmul E dRs_isWithin_4 ?_
  refine wm_letJ h (fun x5 h => ?_)
  refine wm_lstore_n (lv' := [(2, vL x5), (0, vR v0), (1, vI v1)]) E dRs_isWithin_5 rfl (by decide) rfl ?_
  refine wm_aload_n E dRs_isWithin_6 rfl (j := 1) rfl ?_
  refine wm_gI E fd_Rs_7 h dRs_isWithin_7 (fun x7 h => ?_)
  refine wm_if_eq (tgt := 44) E dRs_isWithin_10 (by decide) (fun c10 => ?_) (fun c10 => ?_)
  · have h := (if_pos c10).symm.trans h
    refine wm_pick (lv' := []) [] rfl ?_
    exact w_Rs_isWithin_44 E hQ hR hI μ h
  · have h := (if_neg c10).symm.trans h
    refine wm_aload_n E dRs_isWithin_13 rfl (j := 1) rfl ?_
    refine wm_gL E fd_Rs_38 h dRs_isWithin_14 (fun x14 h => ?_)
    refine wm_lload_n E dRs_isWithin_17 rfl (j := 0) rfl ?_
    refine wm_lcmp E dRs_isWithin_18 ?_
    refine wm_if_lt (tgt := 40) E dRs_isWithin_19 (by decide) (fun c19 => ?_) (fun c19 => ?_)
    · have h := (if_pos c19).symm.trans h
      refine wm_pick (lv' := []) [] rfl ?_
      exact w_Rs_isWithin_40 E hQ hR hI μ h
    · have h := (if_neg c19).symm.trans h
      refine wm_aload_n E dRs_isWithin_22 rfl (j := 1) rfl ?_
      refine wm_gL E fd_Rs_38 h dRs_isWithin_23 (fun x23 h => ?_)
      refine wm_lload_n E dRs_isWithin_26 rfl (j := 0) rfl ?_
      refine wm_lcmp E dRs_isWithin_27 ?_
      refine wm_if_ne (tgt := 44) E dRs_isWithin_28 (by decide) (fun c28 => ?_) (fun c28 => ?_)
      · have h := (if_neg c28).symm.trans h
        refine wm_pick (lv' := []) [] rfl ?_
        exact w_Rs_isWithin_44 E hQ hR hI μ h
      · have h := (if_pos c28).symm.trans h
        refine wm_aload_n E dRs_isWithin_31 rfl (j := 1) rfl ?_
        refine wm_gL E fd_Rs_51 h dRs_isWithin_32 (fun x32 h => ?_)
        refine wm_lconst (x := 0) E dRs_isWithin_35 (by decide) ?_
        refine wm_lcmp E dRs_isWithin_36 ?_
        refine wm_if_ne (tgt := 44) E dRs_isWithin_37 (by decide) (fun c37 => ?_) (fun c37 => ?_)
        · have h := (if_neg c37).symm.trans h
          refine wm_pick (lv' := []) [] rfl ?_
          exact w_Rs_isWithin_44 E hQ hR hI μ h
        · have h := (if_pos c37).symm.trans h
          refine wm_pick (lv' := []) [] rfl ?_
          exact w_Rs_isWithin_40 E hQ hR hI μ h
def B_Na_isOf_21  (s0 : Int32) (μ : Mem) : Option (Int32 × Mem) := gd (¬ okZ s0 = true) (some (s0, μ))
set_option maxHeartbeats 4000000 in
set_option maxRecDepth 100000 in
theorem w_Na_isOf_21 {X : CX} (E : EV X prog_7_method_2_code 2 "PlaceFinder$Name" (some .boolean)) {μ0 μ' : Mem} {r : Int32} (hQ : RQ X 0 0 μ0 (some (vI r)) μ') (hR : xR X = { frames := 0, cells := 0, slots := 0, locals := 0 }) (hI : X.2.2.2.2.2.2.2.2.2.2.2.1.name = "isOf")  (s0 : Int32) (μ : Mem) (h : B_Na_isOf_21  s0 μ = some (r, μ')) : WM X 2 21 [] [vI s0] 0 0 μ := by
  have h : (gd (¬ okZ s0 = true) (some (s0, μ))) = some (r, μ') := h
  obtain ⟨hz21, h⟩ := gdS h
  exact wm_zret (rt := .boolean) E hQ (rtI h) (rtM h) (okZN hz21) (by decide) (by decide) dNa_isOf_21
def B_Na_isOf_20   (μ : Mem) : Option (Int32 × Mem) := B_Na_isOf_21 0 μ
set_option maxHeartbeats 4000000 in
set_option maxRecDepth 100000 in
theorem w_Na_isOf_20 {X : CX} (E : EV X prog_7_method_2_code 2 "PlaceFinder$Name" (some .boolean)) {μ0 μ' : Mem} {r : Int32} (hQ : RQ X 0 0 μ0 (some (vI r)) μ') (hR : xR X = { frames := 0, cells := 0, slots := 0, locals := 0 }) (hI : X.2.2.2.2.2.2.2.2.2.2.2.1.name = "isOf")   (μ : Mem) (h : B_Na_isOf_20   μ = some (r, μ')) : WM X 2 20 [] [] 0 0 μ := by
  have h : (B_Na_isOf_21 0 μ) = some (r, μ') := h
  refine wm_iconst (x := 0) E dNa_isOf_20 (by decide) ?_
  refine wm_pick (lv' := []) [] rfl ?_
  exact w_Na_isOf_21 E hQ hR hI 0 μ h
def S_Na_isOf (v0 : Option Nat) (v1 : Int32) (μ : Mem) : Option (Int32 × Mem) := b1 (gI μ v0 6 1) (fun x1 => if v1 < x1 then B_Na_isOf_20 μ else b1 (gI μ v0 6 2) (fun x10 => if x10 < v1 then B_Na_isOf_20 μ else B_Na_isOf_21 1 μ))
set_option maxHeartbeats 4000000 in
set_option maxRecDepth 100000 in
theorem C_Na_isOf (l : Launch) (G : GG) (v0 : Option Nat) (v1 : Int32) (μ μ' : Mem) (r : Int32) (h : S_Na_isOf v0 v1 μ = some (r, μ')) : CT l G y_Na_isOf prog_7_method_2_code 2 (some .boolean) 0 0 0 0 μ [vR v0, vI v1] (some (vI r)) μ' := by
  refine wm_met (lv := [(0, vR v0), (1, vI v1)]) (by decide +kernel) (Nat.le_of_ble_eq_true rfl) rfl (fun X E hQ hR hI => ?_)
  have h : (b1 (gI μ v0 6 1) (fun x1 => if v1 < x1 then B_Na_isOf_20 μ else b1 (gI μ v0 6 2) (fun x10 => if x10 < v1 then B_Na_isOf_20 μ else B_Na_isOf_21 1 μ))) = some (r, μ') := h
  refine wm_aload_n E dNa_isOf_0 rfl (j := 0) rfl ?_
  refine wm_gI E fd_Na_13 h dNa_isOf_1 (fun x1 h => ?_)
  refine wm_iload_n E dNa_isOf_4 rfl (j := 1) rfl ?_
  refine wm_icmp_gt (tgt := 20) E dNa_isOf_5 (by decide) (fun c5 => ?_) (fun c5 => ?_)
  · have h := (if_pos c5).symm.trans h
    refine wm_pick (lv' := []) [] rfl ?_
    exact w_Na_isOf_20 E hQ hR hI μ h
  · have h := (if_neg c5).symm.trans h
    refine wm_iload_n E dNa_isOf_8 rfl (j := 1) rfl ?_
    refine wm_aload_n E dNa_isOf_9 rfl (j := 0) rfl ?_
    refine wm_gI E fd_Na_17 h dNa_isOf_10 (fun x10 h => ?_)
    refine wm_icmp_gt (tgt := 20) E dNa_isOf_13 (by decide) (fun c13 => ?_) (fun c13 => ?_)
    · have h := (if_pos c13).symm.trans h
      refine wm_pick (lv' := []) [] rfl ?_
      exact w_Na_isOf_20 E hQ hR hI μ h
    · have h := (if_neg c13).symm.trans h
      refine wm_iconst (x := 1) E dNa_isOf_16 (by decide) ?_
      refine wm_goto (tgt := 21) E dNa_isOf_17 (by decide) ?_
      refine wm_pick (lv' := []) [] rfl ?_
      exact w_Na_isOf_21 E hQ hR hI 1 μ h
def B_Wo_rank_38 (k4 : Option Nat → Int64 → Int32 → Mem → Option (Int64 × Mem)) (v0 : Option Nat) (v3 : Int32) (s0 : Int64) (s1 : Int32) (μ : Mem) : Option (Int64 × Mem) := b0 (s0 + ((s1 : Int32).toInt64)) (fun x40 => k4 v0 x40 (v3 + 1) μ)
set_option maxHeartbeats 4000000 in
set_option maxRecDepth 100000 in
theorem w_Wo_rank_38 {X : CX} (E : EV X prog_11_method_3_code 4 "PlaceFinder$Word" (some .long)) {μ0 μ' : Mem} {r : Int64} (hQ : RQ X 0 0 μ0 (some (vL r)) μ') (hR : xR X = { frames := 0, cells := 0, slots := 0, locals := 0 }) (hI : X.2.2.2.2.2.2.2.2.2.2.2.1.name = "rank") (k4 : Option Nat → Int64 → Int32 → Mem → Option (Int64 × Mem)) (hk4 : ∀ (v0 : Option Nat) (v1 : Int64) (v3 : Int32) (μ : Mem), k4 v0 v1 v3 μ = some (r, μ') → WM X 4 4 [(0, vR v0), (1, vL v1), (3, vI v3)] [] 0 0 μ) (v0 : Option Nat) (v3 : Int32) (s0 : Int64) (s1 : Int32) (μ : Mem) (h : B_Wo_rank_38 k4 v0 v3 s0 s1 μ = some (r, μ')) : WM X 4 38 [(0, vR v0), (3, vI v3)] [vI s1, vL s0] 0 0 μ := by
  have h : (b0 (s0 + ((s1 : Int32).toInt64)) (fun x40 => k4 v0 x40 (v3 + 1) μ)) = some (r, μ') := h
  refine wm_i2l E dWo_rank_38 ?_
  refine wm_ladd E dWo_rank_39 ?_
  refine wm_letJ h (fun x40 h => ?_)
  refine wm_lstore_n (lv' := [(1, vL x40), (0, vR v0), (3, vI v3)]) E dWo_rank_40 rfl (by decide) rfl ?_
  refine wm_iinc (lv' := [(3, vI (v3 + 1)), (1, vL x40), (0, vR v0)]) (d := 1) E dWo_rank_41 (by decide) (j := 2) rfl (by decide) rfl ?_
  refine wm_goto (tgt := 4) E dWo_rank_44 (by decide) ?_
  refine wm_pick (lv' := [(0, vR v0), (1, vL x40), (3, vI (v3 + 1))]) [2, 1, 0] rfl ?_
  exact hk4 v0 x40 (v3 + 1) μ h
def B_Wo_rank_4  : Nat → Option Nat → Int64 → Int32 → Mem → Option (Int64 × Mem)
  | 0, _, _, _, _ => none
  | n + 1, v0, v1, v3, μ => if 10 ≤ v3 then some (v1, μ) else b1 (gI μ v0 10 1) (fun x17 => if x17 ≤ v3 then B_Wo_rank_38 (fun v0 v1 v3 μ => B_Wo_rank_4 n v0 v1 v3 μ) v0 v3 (v1 * 27) 0 μ else b1 (gR μ v0 10 0) (fun x24 => b1 (aI μ x24 2 v3) (fun x28 => B_Wo_rank_38 (fun v0 v1 v3 μ => B_Wo_rank_4 n v0 v1 v3 μ) v0 v3 (v1 * 27) ((x28 - 97) + 1) μ)))
set_option maxHeartbeats 4000000 in
set_option maxRecDepth 100000 in
theorem w_Wo_rank_4 {X : CX} (E : EV X prog_11_method_3_code 4 "PlaceFinder$Word" (some .long)) {μ0 μ' : Mem} {r : Int64} (hQ : RQ X 0 0 μ0 (some (vL r)) μ') (hR : xR X = { frames := 0, cells := 0, slots := 0, locals := 0 }) (hI : X.2.2.2.2.2.2.2.2.2.2.2.1.name = "rank")  (n : Nat) : ∀ (v0 : Option Nat) (v1 : Int64) (v3 : Int32) (μ : Mem) (h : B_Wo_rank_4  n v0 v1 v3 μ = some (r, μ')), WM X 4 4 [(0, vR v0), (1, vL v1), (3, vI v3)] [] 0 0 μ := by
  induction n with
  | zero => intro v0 v1 v3 μ h; cases h
  | succ n ih =>
    intro v0 v1 v3 μ h
    have h : (if 10 ≤ v3 then some (v1, μ) else b1 (gI μ v0 10 1) (fun x17 => if x17 ≤ v3 then B_Wo_rank_38 (fun v0 v1 v3 μ => B_Wo_rank_4 n v0 v1 v3 μ) v0 v3 (v1 * 27) 0 μ else b1 (gR μ v0 10 0) (fun x24 => b1 (aI μ x24 2 v3) (fun x28 => B_Wo_rank_38 (fun v0 v1 v3 μ => B_Wo_rank_4 n v0 v1 v3 μ) v0 v3 (v1 * 27) ((x28 - 97) + 1) μ)))) = some (r, μ') := h
    refine wm_iload_n E dWo_rank_4 rfl (j := 2) rfl ?_
    refine wm_bipush (x := 10) E dWo_rank_5 (by decide) ?_
    refine wm_icmp_ge (tgt := 47) E dWo_rank_7 (by decide) (fun c7 => ?_) (fun c7 => ?_)
    · have h := (if_pos c7).symm.trans h
      refine wm_lload_n E dWo_rank_47 rfl (j := 1) rfl ?_
      exact wm_lret (rt := .long) E hQ (rtL h) (rtM h) (by decide) (by decide) dWo_rank_48
    · have h := (if_neg c7).symm.trans h
      refine wm_lload_n E dWo_rank_10 rfl (j := 1) rfl ?_
      refine wm_ldc2 (x := 27) E cn_Wo_23 dWo_rank_11 ?_
      refine wm_lmul E dWo_rank_14 ?_
      refine wm_iload_n E dWo_rank_15 rfl (j := 2) rfl ?_
      refine wm_aload_n E dWo_rank_16 rfl (j := 0) rfl ?_
      refine wm_gI E fd_Wo_19 h dWo_rank_17 (fun x17 h => ?_)
      refine wm_icmp_ge (tgt := 37) E dWo_rank_20 (by decide) (fun c20 => ?_) (fun c20 => ?_)
      · have h := (if_pos c20).symm.trans h
        refine wm_iconst (x := 0) E dWo_rank_37 (by decide) ?_
        refine wm_pick (lv' := [(0, vR v0), (3, vI v3)]) [0, 2] rfl ?_
        exact w_Wo_rank_38 E hQ hR hI (fun v0 v1 v3 μ => B_Wo_rank_4 n v0 v1 v3 μ) ih v0 v3 (v1 * 27) 0 μ h
      · have h := (if_neg c20).symm.trans h
        refine wm_aload_n E dWo_rank_23 rfl (j := 0) rfl ?_
        refine wm_gR E fd_Wo_9 h dWo_rank_24 (fun x24 h => ?_)
        refine wm_iload_n E dWo_rank_27 rfl (j := 2) rfl ?_
        refine wm_cald (t := 2) E rfl h dWo_rank_28 (fun x28 h => ?_)
        refine wm_bipush (x := 97) E dWo_rank_29 (by decide) ?_
        refine wm_isub E dWo_rank_31 ?_
        refine wm_iconst (x := 1) E dWo_rank_32 (by decide) ?_
        refine wm_iadd E dWo_rank_33 ?_
        refine wm_goto (tgt := 38) E dWo_rank_34 (by decide) ?_
        refine wm_pick (lv' := [(0, vR v0), (3, vI v3)]) [0, 2] rfl ?_
        exact w_Wo_rank_38 E hQ hR hI (fun v0 v1 v3 μ => B_Wo_rank_4 n v0 v1 v3 μ) ih v0 v3 (v1 * 27) ((x28 - 97) + 1) μ h
def S_Wo_rank (v0 : Option Nat) (μ : Mem) : Option (Int64 × Mem) := B_Wo_rank_4 fu v0 0 0 μ
set_option maxHeartbeats 4000000 in
set_option maxRecDepth 100000 in
theorem C_Wo_rank (l : Launch) (G : GG) (v0 : Option Nat) (μ μ' : Mem) (r : Int64) (h : S_Wo_rank v0 μ = some (r, μ')) : CT l G y_Wo_rank prog_11_method_3_code 4 (some .long) 0 0 0 0 μ [vR v0] (some (vL r)) μ' := by
  refine wm_met (lv := [(0, vR v0)]) (by decide +kernel) (Nat.le_of_ble_eq_true rfl) rfl (fun X E hQ hR hI => ?_)
  have h : (B_Wo_rank_4 fu v0 0 0 μ) = some (r, μ') := h
  refine wm_lconst (x := 0) E dWo_rank_0 (by decide) ?_
  refine wm_lstore_n (lv' := [(1, vL 0), (0, vR v0)]) E dWo_rank_1 rfl (by decide) rfl ?_
  refine wm_iconst (x := 0) E dWo_rank_2 (by decide) ?_
  refine wm_istore_n (lv' := [(3, vI 0), (1, vL 0), (0, vR v0)]) E dWo_rank_3 rfl (by decide) rfl ?_
  refine wm_pick (lv' := [(0, vR v0), (1, vL 0), (3, vI 0)]) [2, 1, 0] rfl ?_
  exact w_Wo_rank_4 E hQ hR hI fu v0 0 0 μ h
def B_Wo_beginsWith_15  : Nat → Option Nat → Option Nat → Int32 → Mem → Option (Int32 × Mem)
  | 0, _, _, _, _ => none
  | n + 1, v0, v1, v2, μ => b1 (gI μ v1 10 1) (fun x17 => if x17 ≤ v2 then gd (¬ okZ 1 = true) (some (1, μ)) else b1 (gR μ v0 10 0) (fun x24 => b1 (aI μ x24 2 v2) (fun x28 => b1 (gR μ v1 10 0) (fun x30 => b1 (aI μ x30 2 v2) (fun x34 => if x28 = x34 then (fun v0 v1 v2 μ => B_Wo_beginsWith_15 n v0 v1 v2 μ) v0 v1 (v2 + 1) μ else gd (¬ okZ 0 = true) (some (0, μ)))))))
set_option maxHeartbeats 4000000 in
set_option maxRecDepth 100000 in
theorem w_Wo_beginsWith_15 {X : CX} (E : EV X prog_11_method_4_code 3 "PlaceFinder$Word" (some .boolean)) {μ0 μ' : Mem} {r : Int32} (hQ : RQ X 0 0 μ0 (some (vI r)) μ') (hR : xR X = { frames := 0, cells := 0, slots := 0, locals := 0 }) (hI : X.2.2.2.2.2.2.2.2.2.2.2.1.name = "beginsWith")  (n : Nat) : ∀ (v0 : Option Nat) (v1 : Option Nat) (v2 : Int32) (μ : Mem) (h : B_Wo_beginsWith_15  n v0 v1 v2 μ = some (r, μ')), WM X 3 15 [(0, vR v0), (1, vR v1), (2, vI v2)] [] 0 0 μ := by
  induction n with
  | zero => intro v0 v1 v2 μ h; cases h
  | succ n ih =>
    intro v0 v1 v2 μ h
    have h : (b1 (gI μ v1 10 1) (fun x17 => if x17 ≤ v2 then gd (¬ okZ 1 = true) (some (1, μ)) else b1 (gR μ v0 10 0) (fun x24 => b1 (aI μ x24 2 v2) (fun x28 => b1 (gR μ v1 10 0) (fun x30 => b1 (aI μ x30 2 v2) (fun x34 => if x28 = x34 then (fun v0 v1 v2 μ => B_Wo_beginsWith_15 n v0 v1 v2 μ) v0 v1 (v2 + 1) μ else gd (¬ okZ 0 = true) (some (0, μ)))))))) = some (r, μ') := h
    refine wm_iload_n E dWo_beginsWith_15 rfl (j := 2) rfl ?_
    refine wm_aload_n E dWo_beginsWith_16 rfl (j := 1) rfl ?_
    refine wm_gI E fd_Wo_19 h dWo_beginsWith_17 (fun x17 h => ?_)
    refine wm_icmp_ge (tgt := 46) E dWo_beginsWith_20 (by decide) (fun c20 => ?_) (fun c20 => ?_)
    · have h := (if_pos c20).symm.trans h
      refine wm_iconst (x := 1) E dWo_beginsWith_46 (by decide) ?_
      obtain ⟨hz47, h⟩ := gdS h
      exact wm_zret (rt := .boolean) E hQ (rtI h) (rtM h) (okZN hz47) (by decide) (by decide) dWo_beginsWith_47
    · have h := (if_neg c20).symm.trans h
      refine wm_aload_n E dWo_beginsWith_23 rfl (j := 0) rfl ?_
      refine wm_gR E fd_Wo_9 h dWo_beginsWith_24 (fun x24 h => ?_)
      refine wm_iload_n E dWo_beginsWith_27 rfl (j := 2) rfl ?_
      refine wm_cald (t := 2) E rfl h dWo_beginsWith_28 (fun x28 h => ?_)
      refine wm_aload_n E dWo_beginsWith_29 rfl (j := 1) rfl ?_
      refine wm_gR E fd_Wo_9 h dWo_beginsWith_30 (fun x30 h => ?_)
      refine wm_iload_n E dWo_beginsWith_33 rfl (j := 2) rfl ?_
      refine wm_cald (t := 2) E rfl h dWo_beginsWith_34 (fun x34 h => ?_)
      refine wm_icmp_eq (tgt := 40) E dWo_beginsWith_35 (by decide) (fun c35 => ?_) (fun c35 => ?_)
      · have h := (if_pos c35).symm.trans h
        refine wm_iinc (lv' := [(2, vI (v2 + 1)), (0, vR v0), (1, vR v1)]) (d := 1) E dWo_beginsWith_40 (by decide) (j := 2) rfl (by decide) rfl ?_
        refine wm_goto (tgt := 15) E dWo_beginsWith_43 (by decide) ?_
        refine wm_pick (lv' := [(0, vR v0), (1, vR v1), (2, vI (v2 + 1))]) [1, 2, 0] rfl ?_
        exact ih v0 v1 (v2 + 1) μ h
      · have h := (if_neg c35).symm.trans h
        refine wm_iconst (x := 0) E dWo_beginsWith_38 (by decide) ?_
        obtain ⟨hz39, h⟩ := gdS h
        exact wm_zret (rt := .boolean) E hQ (rtI h) (rtM h) (okZN hz39) (by decide) (by decide) dWo_beginsWith_39
def S_Wo_beginsWith (v0 : Option Nat) (v1 : Option Nat) (μ : Mem) : Option (Int32 × Mem) := b1 (gI μ v1 10 1) (fun x1 => b1 (gI μ v0 10 1) (fun x5 => if x1 ≤ x5 then B_Wo_beginsWith_15 fu v0 v1 0 μ else gd (¬ okZ 0 = true) (some (0, μ))))
set_option maxHeartbeats 4000000 in
set_option maxRecDepth 100000 in
theorem C_Wo_beginsWith (l : Launch) (G : GG) (v0 : Option Nat) (v1 : Option Nat) (μ μ' : Mem) (r : Int32) (h : S_Wo_beginsWith v0 v1 μ = some (r, μ')) : CT l G y_Wo_beginsWith prog_11_method_4_code 3 (some .boolean) 0 0 0 0 μ [vR v0, vR v1] (some (vI r)) μ' := by
  refine wm_met (lv := [(0, vR v0), (1, vR v1)]) (by decide +kernel) (Nat.le_of_ble_eq_true rfl) rfl (fun X E hQ hR hI => ?_)
  have h : (b1 (gI μ v1 10 1) (fun x1 => b1 (gI μ v0 10 1) (fun x5 => if x1 ≤ x5 then B_Wo_beginsWith_15 fu v0 v1 0 μ else gd (¬ okZ 0 = true) (some (0, μ))))) = some (r, μ') := h
  refine wm_aload_n E dWo_beginsWith_0 rfl (j := 1) rfl ?_
  refine wm_gI E fd_Wo_19 h dWo_beginsWith_1 (fun x1 h => ?_)
  refine wm_aload_n E dWo_beginsWith_4 rfl (j := 0) rfl ?_
  refine wm_gI E fd_Wo_19 h dWo_beginsWith_5 (fun x5 h => ?_)
  refine wm_icmp_le (tgt := 13) E dWo_beginsWith_8 (by decide) (fun c8 => ?_) (fun c8 => ?_)
  · have h := (if_pos c8).symm.trans h
    refine wm_iconst (x := 0) E dWo_beginsWith_13 (by decide) ?_
    refine wm_istore_n (lv' := [(2, vI 0), (0, vR v0), (1, vR v1)]) E dWo_beginsWith_14 rfl (by decide) rfl ?_
    refine wm_pick (lv' := [(0, vR v0), (1, vR v1), (2, vI 0)]) [1, 2, 0] rfl ?_
    exact w_Wo_beginsWith_15 E hQ hR hI fu v0 v1 0 μ h
  · have h := (if_neg c8).symm.trans h
    refine wm_iconst (x := 0) E dWo_beginsWith_11 (by decide) ?_
    obtain ⟨hz12, h⟩ := gdS h
    exact wm_zret (rt := .boolean) E hQ (rtI h) (rtM h) (okZN hz12) (by decide) (by decide) dWo_beginsWith_12
def B_Ec_leastFor_9  (v2 : Int32) (v4 : Int32) (μ : Mem) : Option (Int32 × Mem) := some (v2 + v4, μ)
set_option maxHeartbeats 4000000 in
set_option maxRecDepth 100000 in
theorem w_Ec_leastFor_9 {X : CX} (E : EV X prog_4_method_3_code 9 "PlaceFinder$ErrorCounter" (some .int)) {μ0 μ' : Mem} {r : Int32} (hQ : RQ X 0 0 μ0 (some (vI r)) μ') (hR : xR X = { frames := 1, cells := 0, slots := 0, locals := 21 }) (hI : X.2.2.2.2.2.2.2.2.2.2.2.1.name = "leastFor")  (v2 : Int32) (v4 : Int32) (μ : Mem) (h : B_Ec_leastFor_9  v2 v4 μ = some (r, μ')) : WM X 9 9 [(2, vI v2), (4, vI v4)] [] 0 0 μ := by
  have h : (some (v2 + v4, μ)) = some (r, μ') := h
  refine wm_iload_n E dEc_leastFor_9 rfl (j := 0) rfl ?_
  refine wm_iload E dEc_leastFor_10 (j := 1) rfl ?_
  refine wm_iadd E dEc_leastFor_12 ?_
  exact wm_iret (rt := .int) E hQ (rtI h) (rtM h) (by decide) (by decide) dEc_leastFor_13
def B_Ec_leastFor_163  (s0 : Int32) (μ : Mem) : Option (Int32 × Mem) := some (s0, μ)
set_option maxHeartbeats 4000000 in
set_option maxRecDepth 100000 in
theorem w_Ec_leastFor_163 {X : CX} (E : EV X prog_4_method_3_code 9 "PlaceFinder$ErrorCounter" (some .int)) {μ0 μ' : Mem} {r : Int32} (hQ : RQ X 0 0 μ0 (some (vI r)) μ') (hR : xR X = { frames := 1, cells := 0, slots := 0, locals := 21 }) (hI : X.2.2.2.2.2.2.2.2.2.2.2.1.name = "leastFor")  (s0 : Int32) (μ : Mem) (h : B_Ec_leastFor_163  s0 μ = some (r, μ')) : WM X 9 163 [] [vI s0] 0 0 μ := by
  have h : (some (s0, μ)) = some (r, μ') := h
  exact wm_iret (rt := .int) E hQ (rtI h) (rtM h) (by decide) (by decide) dEc_leastFor_163
def B_Ec_leastFor_131  (v0 : Option Nat) (v2 : Int32) (v4 : Int32) (v7 : Int32) (s0 : Int32) (μ : Mem) : Option (Int32 × Mem) := if s0 = 0 then B_Ec_leastFor_163 v7 μ else b1 (gR μ v0 3 0) (fun x141 => b1 (aR μ x141 6 (v2 - 2)) (fun x147 => b1 (aI μ x147 0 (v4 - 2)) (fun x152 => b2 (S_Ma_min v7 (x152 + 1) μ) (fun x155 m155 => B_Ec_leastFor_163 x155 m155))))
set_option maxHeartbeats 4000000 in
set_option maxRecDepth 100000 in
theorem w_Ec_leastFor_131 {X : CX} (E : EV X prog_4_method_3_code 9 "PlaceFinder$ErrorCounter" (some .int)) {μ0 μ' : Mem} {r : Int32} (hQ : RQ X 0 0 μ0 (some (vI r)) μ') (hR : xR X = { frames := 1, cells := 0, slots := 0, locals := 21 }) (hI : X.2.2.2.2.2.2.2.2.2.2.2.1.name = "leastFor")  (v0 : Option Nat) (v2 : Int32) (v4 : Int32) (v7 : Int32) (s0 : Int32) (μ : Mem) (h : B_Ec_leastFor_131  v0 v2 v4 v7 s0 μ = some (r, μ')) : WM X 9 131 [(0, vR v0), (2, vI v2), (4, vI v4), (7, vI v7)] [vI s0] 0 0 μ := by
  have h : (if s0 = 0 then B_Ec_leastFor_163 v7 μ else b1 (gR μ v0 3 0) (fun x141 => b1 (aR μ x141 6 (v2 - 2)) (fun x147 => b1 (aI μ x147 0 (v4 - 2)) (fun x152 => b2 (S_Ma_min v7 (x152 + 1) μ) (fun x155 m155 => B_Ec_leastFor_163 x155 m155))))) = some (r, μ') := h
  refine wm_istore (lv' := [(8, vI s0), (0, vR v0), (2, vI v2), (4, vI v4), (7, vI v7)]) E dEc_leastFor_131 (by decide) rfl ?_
  refine wm_iload E dEc_leastFor_133 (j := 0) rfl ?_
  refine wm_if_eq (tgt := 161) E dEc_leastFor_135 (by decide) (fun c135 => ?_) (fun c135 => ?_)
  · have h := (if_pos c135).symm.trans h
    refine wm_iload E dEc_leastFor_161 (j := 4) rfl ?_
    refine wm_pick (lv' := []) [] rfl ?_
    exact w_Ec_leastFor_163 E hQ hR hI v7 μ h
  · have h := (if_neg c135).symm.trans h
    refine wm_iload E dEc_leastFor_138 (j := 4) rfl ?_
    refine wm_aload_n E dEc_leastFor_140 rfl (j := 1) rfl ?_
    refine wm_gR E fd_Ec_11 h dEc_leastFor_141 (fun x141 h => ?_)
    refine wm_iload_n E dEc_leastFor_144 rfl (j := 2) rfl ?_
    refine wm_iconst (x := 2) E dEc_leastFor_145 (by decide) ?_
    refine wm_isub E dEc_leastFor_146 ?_
    refine wm_aald (t := 6) E rfl rfl h dEc_leastFor_147 (fun x147 h => ?_)
    refine wm_iload E dEc_leastFor_148 (j := 3) rfl ?_
    refine wm_iconst (x := 2) E dEc_leastFor_150 (by decide) ?_
    refine wm_isub E dEc_leastFor_151 ?_
    refine wm_iald (t := 0) E rfl h dEc_leastFor_152 (fun x152 h => ?_)
    refine wm_iconst (x := 1) E dEc_leastFor_153 (by decide) ?_
    refine wm_iadd E dEc_leastFor_154 ?_
    obtain ⟨x155, m155, hc155, h⟩ := b2S h
    refine wm_cS (As := [vI v7, vI (x152 + 1)]) (st := []) E lk_Ec_30 sc_Ma_min (C_Ma_min (xl X) X.1 v7 (x152 + 1) μ _ _ hc155) rfl rfl (by rw [hR]; decide) (by rw [hR]; decide) (Nat.le_of_ble_eq_true rfl) dEc_leastFor_155 ?_
    refine wm_goto (tgt := 163) E dEc_leastFor_158 (by decide) ?_
    refine wm_pick (lv' := []) [] rfl ?_
    exact w_Ec_leastFor_163 E hQ hR hI x155 m155 h
def B_Ec_leastFor_130  (v0 : Option Nat) (v2 : Int32) (v4 : Int32) (v7 : Int32) (μ : Mem) : Option (Int32 × Mem) := B_Ec_leastFor_131 v0 v2 v4 v7 0 μ
set_option maxHeartbeats 4000000 in
set_option maxRecDepth 100000 in
theorem w_Ec_leastFor_130 {X : CX} (E : EV X prog_4_method_3_code 9 "PlaceFinder$ErrorCounter" (some .int)) {μ0 μ' : Mem} {r : Int32} (hQ : RQ X 0 0 μ0 (some (vI r)) μ') (hR : xR X = { frames := 1, cells := 0, slots := 0, locals := 21 }) (hI : X.2.2.2.2.2.2.2.2.2.2.2.1.name = "leastFor")  (v0 : Option Nat) (v2 : Int32) (v4 : Int32) (v7 : Int32) (μ : Mem) (h : B_Ec_leastFor_130  v0 v2 v4 v7 μ = some (r, μ')) : WM X 9 130 [(0, vR v0), (2, vI v2), (4, vI v4), (7, vI v7)] [] 0 0 μ := by
  have h : (B_Ec_leastFor_131 v0 v2 v4 v7 0 μ) = some (r, μ') := h
  refine wm_iconst (x := 0) E dEc_leastFor_130 (by decide) ?_
  refine wm_pick (lv' := [(0, vR v0), (2, vI v2), (4, vI v4), (7, vI v7)]) [0, 1, 2, 3] rfl ?_
  exact w_Ec_leastFor_131 E hQ hR hI v0 v2 v4 v7 0 μ h
def B_Ec_leastFor_46  (v0 : Option Nat) (v1 : Option Nat) (v2 : Int32) (v3 : Option Nat) (v4 : Int32) (s0 : Int32) (s1 : Int32) (μ : Mem) : Option (Int32 × Mem) := b0 (s0 + s1) (fun x47 => b1 (gR μ v0 3 0) (fun x50 => b1 (aR μ x50 6 (v2 - 1)) (fun x56 => b1 (aI μ x56 0 v4) (fun x59 => b1 (gR μ v0 3 0) (fun x61 => b1 (aR μ x61 6 v2) (fun x65 => b1 (aI μ x65 0 (v4 - 1)) (fun x70 => b2 (S_Ma_min x59 x70 μ) (fun x71 m71 => b0 (x71 + 1) (fun x76 => b2 (S_Ma_min x47 x76 m71) (fun x82 m82 => if v2 ≤ 1 then B_Ec_leastFor_130 v0 v2 v4 x82 m82 else if v4 ≤ 1 then B_Ec_leastFor_130 v0 v2 v4 x82 m82 else b1 (aI m82 v1 2 (v2 - 1)) (fun x102 => b1 (aI m82 v3 2 (v4 - 2)) (fun x108 => if x102 = x108 then b1 (aI m82 v1 2 (v2 - 2)) (fun x116 => b1 (aI m82 v3 2 (v4 - 1)) (fun x122 => if x116 = x122 then B_Ec_leastFor_131 v0 v2 v4 x82 1 m82 else B_Ec_leastFor_130 v0 v2 v4 x82 m82)) else B_Ec_leastFor_130 v0 v2 v4 x82 m82))))))))))))
set_option maxHeartbeats 4000000 in
set_option maxRecDepth 100000 in
theorem w_Ec_leastFor_46 {X : CX} (E : EV X prog_4_method_3_code 9 "PlaceFinder$ErrorCounter" (some .int)) {μ0 μ' : Mem} {r : Int32} (hQ : RQ X 0 0 μ0 (some (vI r)) μ') (hR : xR X = { frames := 1, cells := 0, slots := 0, locals := 21 }) (hI : X.2.2.2.2.2.2.2.2.2.2.2.1.name = "leastFor")  (v0 : Option Nat) (v1 : Option Nat) (v2 : Int32) (v3 : Option Nat) (v4 : Int32) (s0 : Int32) (s1 : Int32) (μ : Mem) (h : B_Ec_leastFor_46  v0 v1 v2 v3 v4 s0 s1 μ = some (r, μ')) : WM X 9 46 [(0, vR v0), (1, vR v1), (2, vI v2), (3, vR v3), (4, vI v4)] [vI s1, vI s0] 0 0 μ := by
  have h : (b0 (s0 + s1) (fun x47 => b1 (gR μ v0 3 0) (fun x50 => b1 (aR μ x50 6 (v2 - 1)) (fun x56 => b1 (aI μ x56 0 v4) (fun x59 => b1 (gR μ v0 3 0) (fun x61 => b1 (aR μ x61 6 v2) (fun x65 => b1 (aI μ x65 0 (v4 - 1)) (fun x70 => b2 (S_Ma_min x59 x70 μ) (fun x71 m71 => b0 (x71 + 1) (fun x76 => b2 (S_Ma_min x47 x76 m71) (fun x82 m82 => if v2 ≤ 1 then B_Ec_leastFor_130 v0 v2 v4 x82 m82 else if v4 ≤ 1 then B_Ec_leastFor_130 v0 v2 v4 x82 m82 else b1 (aI m82 v1 2 (v2 - 1)) (fun x102 => b1 (aI m82 v3 2 (v4 - 2)) (fun x108 => if x102 = x108 then b1 (aI m82 v1 2 (v2 - 2)) (fun x116 => b1 (aI m82 v3 2 (v4 - 1)) (fun x122 => if x116 = x122 then B_Ec_leastFor_131 v0 v2 v4 x82 1 m82 else B_Ec_leastFor_130 v0 v2 v4 x82 m82)) else B_Ec_leastFor_130 v0 v2 v4 x82 m82))))))))))))) = some (r, μ') := h
  refine wm_iadd E dEc_leastFor_46 ?_
  refine wm_letI h (fun x47 h => ?_)
  refine wm_istore (lv' := [(5, vI x47), (0, vR v0), (1, vR v1), (2, vI v2), (3, vR v3), (4, vI v4)]) E dEc_leastFor_47 (by decide) rfl ?_
  refine wm_aload_n E dEc_leastFor_49 rfl (j := 1) rfl ?_
  refine wm_gR E fd_Ec_11 h dEc_leastFor_50 (fun x50 h => ?_)
  refine wm_iload_n E dEc_leastFor_53 rfl (j := 3) rfl ?_
  refine wm_iconst (x := 1) E dEc_leastFor_54 (by decide) ?_
  refine wm_isub E dEc_leastFor_55 ?_
  refine wm_aald (t := 6) E rfl rfl h dEc_leastFor_56 (fun x56 h => ?_)
  refine wm_iload E dEc_leastFor_57 (j := 5) rfl ?_
  refine wm_iald (t := 0) E rfl h dEc_leastFor_59 (fun x59 h => ?_)
  refine wm_aload_n E dEc_leastFor_60 rfl (j := 1) rfl ?_
  refine wm_gR E fd_Ec_11 h dEc_leastFor_61 (fun x61 h => ?_)
  refine wm_iload_n E dEc_leastFor_64 rfl (j := 3) rfl ?_
  refine wm_aald (t := 6) E rfl rfl h dEc_leastFor_65 (fun x65 h => ?_)
  refine wm_iload E dEc_leastFor_66 (j := 5) rfl ?_
  refine wm_iconst (x := 1) E dEc_leastFor_68 (by decide) ?_
  refine wm_isub E dEc_leastFor_69 ?_
  refine wm_iald (t := 0) E rfl h dEc_leastFor_70 (fun x70 h => ?_)
  obtain ⟨x71, m71, hc71, h⟩ := b2S h
  refine wm_cS (As := [vI x59, vI x70]) (st := []) E lk_Ec_30 sc_Ma_min (C_Ma_min (xl X) X.1 x59 x70 μ _ _ hc71) rfl rfl (by rw [hR]; decide) (by rw [hR]; decide) (Nat.le_of_ble_eq_true rfl) dEc_leastFor_71 ?_
  refine wm_iconst (x := 1) E dEc_leastFor_74 (by decide) ?_
  refine wm_iadd E dEc_leastFor_75 ?_
  refine wm_letI h (fun x76 h => ?_)
  refine wm_istore (lv' := [(6, vI x76), (5, vI x47), (0, vR v0), (1, vR v1), (2, vI v2), (3, vR v3), (4, vI v4)]) E dEc_leastFor_76 (by decide) rfl ?_
  refine wm_iload E dEc_leastFor_78 (j := 1) rfl ?_
  refine wm_iload E dEc_leastFor_80 (j := 0) rfl ?_
  obtain ⟨x82, m82, hc82, h⟩ := b2S h
  refine wm_cS (As := [vI x47, vI x76]) (st := []) E lk_Ec_30 sc_Ma_min (C_Ma_min (xl X) X.1 x47 x76 m71 _ _ hc82) rfl rfl (by rw [hR]; decide) (by rw [hR]; decide) (Nat.le_of_ble_eq_true rfl) dEc_leastFor_82 ?_
  refine wm_istore (lv' := [(7, vI x82), (6, vI x76), (5, vI x47), (0, vR v0), (1, vR v1), (2, vI v2), (3, vR v3), (4, vI v4)]) E dEc_leastFor_85 (by decide) rfl ?_
  refine wm_iload_n E dEc_leastFor_87 rfl (j := 5) rfl ?_
  refine wm_iconst (x := 1) E dEc_leastFor_88 (by decide) ?_
  refine wm_icmp_le (tgt := 130) E dEc_leastFor_89 (by decide) (fun c89 => ?_) (fun c89 => ?_)
  · have h := (if_pos c89).symm.trans h
    refine wm_pick (lv' := [(0, vR v0), (2, vI v2), (4, vI v4), (7, vI x82)]) [3, 5, 7, 0] rfl ?_
    exact w_Ec_leastFor_130 E hQ hR hI v0 v2 v4 x82 m82 h
  · have h := (if_neg c89).symm.trans h
    refine wm_iload E dEc_leastFor_92 (j := 7) rfl ?_
    refine wm_iconst (x := 1) E dEc_leastFor_94 (by decide) ?_
    refine wm_icmp_le (tgt := 130) E dEc_leastFor_95 (by decide) (fun c95 => ?_) (fun c95 => ?_)
    · have h := (if_pos c95).symm.trans h
      refine wm_pick (lv' := [(0, vR v0), (2, vI v2), (4, vI v4), (7, vI x82)]) [3, 5, 7, 0] rfl ?_
      exact w_Ec_leastFor_130 E hQ hR hI v0 v2 v4 x82 m82 h
    · have h := (if_neg c95).symm.trans h
      refine wm_aload_n E dEc_leastFor_98 rfl (j := 4) rfl ?_
      refine wm_iload_n E dEc_leastFor_99 rfl (j := 5) rfl ?_
      refine wm_iconst (x := 1) E dEc_leastFor_100 (by decide) ?_
      refine wm_isub E dEc_leastFor_101 ?_
      refine wm_cald (t := 2) E rfl h dEc_leastFor_102 (fun x102 h => ?_)
      refine wm_aload_n E dEc_leastFor_103 rfl (j := 6) rfl ?_
      refine wm_iload E dEc_leastFor_104 (j := 7) rfl ?_
      refine wm_iconst (x := 2) E dEc_leastFor_106 (by decide) ?_
      refine wm_isub E dEc_leastFor_107 ?_
      refine wm_cald (t := 2) E rfl h dEc_leastFor_108 (fun x108 h => ?_)
      refine wm_icmp_ne (tgt := 130) E dEc_leastFor_109 (by decide) (fun c109 => ?_) (fun c109 => ?_)
      · have h := (if_neg c109).symm.trans h
        refine wm_pick (lv' := [(0, vR v0), (2, vI v2), (4, vI v4), (7, vI x82)]) [3, 5, 7, 0] rfl ?_
        exact w_Ec_leastFor_130 E hQ hR hI v0 v2 v4 x82 m82 h
      · have h := (if_pos c109).symm.trans h
        refine wm_aload_n E dEc_leastFor_112 rfl (j := 4) rfl ?_
        refine wm_iload_n E dEc_leastFor_113 rfl (j := 5) rfl ?_
        refine wm_iconst (x := 2) E dEc_leastFor_114 (by decide) ?_
        refine wm_isub E dEc_leastFor_115 ?_
        refine wm_cald (t := 2) E rfl h dEc_leastFor_116 (fun x116 h => ?_)
        refine wm_aload_n E dEc_leastFor_117 rfl (j := 6) rfl ?_
        refine wm_iload E dEc_leastFor_118 (j := 7) rfl ?_
        refine wm_iconst (x := 1) E dEc_leastFor_120 (by decide) ?_
        refine wm_isub E dEc_leastFor_121 ?_
        refine wm_cald (t := 2) E rfl h dEc_leastFor_122 (fun x122 h => ?_)
        refine wm_icmp_ne (tgt := 130) E dEc_leastFor_123 (by decide) (fun c123 => ?_) (fun c123 => ?_)
        · have h := (if_neg c123).symm.trans h
          refine wm_pick (lv' := [(0, vR v0), (2, vI v2), (4, vI v4), (7, vI x82)]) [3, 5, 7, 0] rfl ?_
          exact w_Ec_leastFor_130 E hQ hR hI v0 v2 v4 x82 m82 h
        · have h := (if_pos c123).symm.trans h
          refine wm_iconst (x := 1) E dEc_leastFor_126 (by decide) ?_
          refine wm_goto (tgt := 131) E dEc_leastFor_127 (by decide) ?_
          refine wm_pick (lv' := [(0, vR v0), (2, vI v2), (4, vI v4), (7, vI x82)]) [3, 5, 7, 0] rfl ?_
          exact w_Ec_leastFor_131 E hQ hR hI v0 v2 v4 x82 1 m82 h
def S_Ec_leastFor (v0 : Option Nat) (v1 : Option Nat) (v2 : Int32) (v3 : Option Nat) (v4 : Int32) (μ : Mem) : Option (Int32 × Mem) := if v2 = 0 then B_Ec_leastFor_9 v2 v4 μ else if v4 = 0 then B_Ec_leastFor_9 v2 v4 μ else b1 (gR μ v0 3 0) (fun x15 => b1 (aR μ x15 6 (v2 - 1)) (fun x21 => b1 (aI μ x21 0 (v4 - 1)) (fun x26 => b1 (aI μ v1 2 (v2 - 1)) (fun x31 => b1 (aI μ v3 2 (v4 - 1)) (fun x37 => if x31 = x37 then B_Ec_leastFor_46 v0 v1 v2 v3 v4 x26 0 μ else B_Ec_leastFor_46 v0 v1 v2 v3 v4 x26 1 μ)))))
set_option maxHeartbeats 4000000 in
set_option maxRecDepth 100000 in
theorem C_Ec_leastFor (l : Launch) (G : GG) (v0 : Option Nat) (v1 : Option Nat) (v2 : Int32) (v3 : Option Nat) (v4 : Int32) (μ μ' : Mem) (r : Int32) (h : S_Ec_leastFor v0 v1 v2 v3 v4 μ = some (r, μ')) : CT l G y_Ec_leastFor prog_4_method_3_code 9 (some .int) 1 0 0 21 μ [vR v0, vR v1, vI v2, vR v3, vI v4] (some (vI r)) μ' := by
  refine wm_met (lv := [(0, vR v0), (1, vR v1), (2, vI v2), (3, vR v3), (4, vI v4)]) (by decide +kernel) (Nat.le_of_ble_eq_true rfl) rfl (fun X E hQ hR hI => ?_)
  have h : (if v2 = 0 then B_Ec_leastFor_9 v2 v4 μ else if v4 = 0 then B_Ec_leastFor_9 v2 v4 μ else b1 (gR μ v0 3 0) (fun x15 => b1 (aR μ x15 6 (v2 - 1)) (fun x21 => b1 (aI μ x21 0 (v4 - 1)) (fun x26 => b1 (aI μ v1 2 (v2 - 1)) (fun x31 => b1 (aI μ v3 2 (v4 - 1)) (fun x37 => if x31 = x37 then B_Ec_leastFor_46 v0 v1 v2 v3 v4 x26 0 μ else B_Ec_leastFor_46 v0 v1 v2 v3 v4 x26 1 μ)))))) = some (r, μ') := h
  refine wm_iload_n E dEc_leastFor_0 rfl (j := 2) rfl ?_
  refine wm_if_eq (tgt := 9) E dEc_leastFor_1 (by decide) (fun c1 => ?_) (fun c1 => ?_)
  · have h := (if_pos c1).symm.trans h
    refine wm_pick (lv' := [(2, vI v2), (4, vI v4)]) [2, 4] rfl ?_
    exact w_Ec_leastFor_9 E hQ hR hI v2 v4 μ h
  · have h := (if_neg c1).symm.trans h
    refine wm_iload E dEc_leastFor_4 (j := 4) rfl ?_
    refine wm_if_ne (tgt := 14) E dEc_leastFor_6 (by decide) (fun c6 => ?_) (fun c6 => ?_)
    · have h := (if_neg c6).symm.trans h
      refine wm_aload_n E dEc_leastFor_14 rfl (j := 0) rfl ?_
      refine wm_gR E fd_Ec_11 h dEc_leastFor_15 (fun x15 h => ?_)
      refine wm_iload_n E dEc_leastFor_18 rfl (j := 2) rfl ?_
      refine wm_iconst (x := 1) E dEc_leastFor_19 (by decide) ?_
      refine wm_isub E dEc_leastFor_20 ?_
      refine wm_aald (t := 6) E rfl rfl h dEc_leastFor_21 (fun x21 h => ?_)
      refine wm_iload E dEc_leastFor_22 (j := 4) rfl ?_
      refine wm_iconst (x := 1) E dEc_leastFor_24 (by decide) ?_
      refine wm_isub E dEc_leastFor_25 ?_
      refine wm_iald (t := 0) E rfl h dEc_leastFor_26 (fun x26 h => ?_)
      refine wm_aload_n E dEc_leastFor_27 rfl (j := 1) rfl ?_
      refine wm_iload_n E dEc_leastFor_28 rfl (j := 2) rfl ?_
      refine wm_iconst (x := 1) E dEc_leastFor_29 (by decide) ?_
      refine wm_isub E dEc_leastFor_30 ?_
      refine wm_cald (t := 2) E rfl h dEc_leastFor_31 (fun x31 h => ?_)
      refine wm_aload_n E dEc_leastFor_32 rfl (j := 3) rfl ?_
      refine wm_iload E dEc_leastFor_33 (j := 4) rfl ?_
      refine wm_iconst (x := 1) E dEc_leastFor_35 (by decide) ?_
      refine wm_isub E dEc_leastFor_36 ?_
      refine wm_cald (t := 2) E rfl h dEc_leastFor_37 (fun x37 h => ?_)
      refine wm_icmp_ne (tgt := 45) E dEc_leastFor_38 (by decide) (fun c38 => ?_) (fun c38 => ?_)
      · have h := (if_neg c38).symm.trans h
        refine wm_iconst (x := 1) E dEc_leastFor_45 (by decide) ?_
        refine wm_pick (lv' := [(0, vR v0), (1, vR v1), (2, vI v2), (3, vR v3), (4, vI v4)]) [0, 1, 2, 3, 4] rfl ?_
        exact w_Ec_leastFor_46 E hQ hR hI v0 v1 v2 v3 v4 x26 1 μ h
      · have h := (if_pos c38).symm.trans h
        refine wm_iconst (x := 0) E dEc_leastFor_41 (by decide) ?_
        refine wm_goto (tgt := 46) E dEc_leastFor_42 (by decide) ?_
        refine wm_pick (lv' := [(0, vR v0), (1, vR v1), (2, vI v2), (3, vR v3), (4, vI v4)]) [0, 1, 2, 3, 4] rfl ?_
        exact w_Ec_leastFor_46 E hQ hR hI v0 v1 v2 v3 v4 x26 0 μ h
    · have h := (if_pos c6).symm.trans h
      refine wm_pick (lv' := [(2, vI v2), (4, vI v4)]) [2, 4] rfl ?_
      exact w_Ec_leastFor_9 E hQ hR hI v2 v4 μ h
def B_Ec_count_13 (k2 : Option Nat → Option Nat → Option Nat → Int32 → Mem → Option (Int32 × Mem)) : Nat → Option Nat → Option Nat → Option Nat → Int32 → Int32 → Mem → Option (Int32 × Mem)
  | 0, _, _, _, _, _, _ => none
  | n + 1, v0, v1, v2, v3, v4, μ => b1 (gI μ v2 10 1) (fun x16 => if x16 < v4 then k2 v0 v1 v2 (v3 + 1) μ else b1 (gR μ v0 3 0) (fun x23 => b1 (aR μ x23 6 v3) (fun x27 => b1 (gR μ v1 10 0) (fun x32 => b1 (gR μ v2 10 0) (fun x37 => b1 (rc μ v0 3) (fun _ => b2 (S_Ec_leastFor v0 x32 v3 x37 v4 μ) (fun x42 m42 => b1 (sI m42 x27 0 v4 x42) (fun m45 => (fun v0 v1 v2 v3 v4 μ => B_Ec_count_13 k2 n v0 v1 v2 v3 v4 μ) v0 v1 v2 v3 (v4 + 1) m45))))))))
set_option maxHeartbeats 4000000 in
set_option maxRecDepth 100000 in
theorem w_Ec_count_13 {X : CX} (E : EV X prog_4_method_2_code 5 "PlaceFinder$ErrorCounter" (some .int)) {μ0 μ' : Mem} {r : Int32} (hQ : RQ X 0 0 μ0 (some (vI r)) μ') (hR : xR X = { frames := 2, cells := 0, slots := 0, locals := 49 }) (hI : X.2.2.2.2.2.2.2.2.2.2.2.1.name = "count") (k2 : Option Nat → Option Nat → Option Nat → Int32 → Mem → Option (Int32 × Mem)) (hk2 : ∀ (v0 : Option Nat) (v1 : Option Nat) (v2 : Option Nat) (v3 : Int32) (μ : Mem), k2 v0 v1 v2 v3 μ = some (r, μ') → WM X 5 2 [(0, vR v0), (1, vR v1), (2, vR v2), (3, vI v3)] [] 0 0 μ) (n : Nat) : ∀ (v0 : Option Nat) (v1 : Option Nat) (v2 : Option Nat) (v3 : Int32) (v4 : Int32) (μ : Mem) (h : B_Ec_count_13 k2 n v0 v1 v2 v3 v4 μ = some (r, μ')), WM X 5 13 [(0, vR v0), (1, vR v1), (2, vR v2), (3, vI v3), (4, vI v4)] [] 0 0 μ := by
  induction n with
  | zero => intro v0 v1 v2 v3 v4 μ h; cases h
  | succ n ih =>
    intro v0 v1 v2 v3 v4 μ h
    have h : (b1 (gI μ v2 10 1) (fun x16 => if x16 < v4 then k2 v0 v1 v2 (v3 + 1) μ else b1 (gR μ v0 3 0) (fun x23 => b1 (aR μ x23 6 v3) (fun x27 => b1 (gR μ v1 10 0) (fun x32 => b1 (gR μ v2 10 0) (fun x37 => b1 (rc μ v0 3) (fun _ => b2 (S_Ec_leastFor v0 x32 v3 x37 v4 μ) (fun x42 m42 => b1 (sI m42 x27 0 v4 x42) (fun m45 => (fun v0 v1 v2 v3 v4 μ => B_Ec_count_13 k2 n v0 v1 v2 v3 v4 μ) v0 v1 v2 v3 (v4 + 1) m45))))))))) = some (r, μ') := h
    refine wm_iload E dEc_count_13 (j := 4) rfl ?_
    refine wm_aload_n E dEc_count_15 rfl (j := 2) rfl ?_
    refine wm_gI E fd_Ec_16 h dEc_count_16 (fun x16 h => ?_)
    refine wm_icmp_gt (tgt := 52) E dEc_count_19 (by decide) (fun c19 => ?_) (fun c19 => ?_)
    · have h := (if_pos c19).symm.trans h
      refine wm_iinc (lv' := [(3, vI (v3 + 1)), (0, vR v0), (1, vR v1), (2, vR v2), (4, vI v4)]) (d := 1) E dEc_count_52 (by decide) (j := 3) rfl (by decide) rfl ?_
      refine wm_goto (tgt := 2) E dEc_count_55 (by decide) ?_
      refine wm_pick (lv' := [(0, vR v0), (1, vR v1), (2, vR v2), (3, vI (v3 + 1))]) [1, 2, 3, 0] rfl ?_
      exact hk2 v0 v1 v2 (v3 + 1) μ h
    · have h := (if_neg c19).symm.trans h
      refine wm_aload_n E dEc_count_22 rfl (j := 0) rfl ?_
      refine wm_gR E fd_Ec_11 h dEc_count_23 (fun x23 h => ?_)
      refine wm_iload_n E dEc_count_26 rfl (j := 3) rfl ?_
      refine wm_aald (t := 6) E rfl rfl h dEc_count_27 (fun x27 h => ?_)
      refine wm_iload E dEc_count_28 (j := 4) rfl ?_
      refine wm_aload_n E dEc_count_30 rfl (j := 0) rfl ?_
      refine wm_aload_n E dEc_count_31 rfl (j := 1) rfl ?_
      refine wm_gR E fd_Ec_22 h dEc_count_32 (fun x32 h => ?_)
      refine wm_iload_n E dEc_count_35 rfl (j := 3) rfl ?_
      refine wm_aload_n E dEc_count_36 rfl (j := 2) rfl ?_
      refine wm_gR E fd_Ec_22 h dEc_count_37 (fun x37 h => ?_)
      refine wm_iload E dEc_count_40 (j := 4) rfl ?_
      obtain ⟨u42, hr42, h⟩ := b1S h
      obtain ⟨x42, m42, hc42, h⟩ := b2S h
      refine wm_cV (ci := 3) (As := [vR x32, vI v3, vR x37, vI v4]) (st := [vI v4, vR x27]) E lk_Ec_26 rfl im_Ec_leastFor sl_Ec_leastFor hr42 (C_Ec_leastFor (xl X) X.1 v0 x32 v3 x37 v4 μ _ _ hc42) rfl rfl (by rw [hR]; decide) (by rw [hR]; decide) (Nat.le_of_ble_eq_true rfl) dEc_count_42 ?_
      refine wm_iast (t := 0) E rfl h dEc_count_45 (fun m45 h => ?_)
      refine wm_iinc (lv' := [(4, vI (v4 + 1)), (0, vR v0), (1, vR v1), (2, vR v2), (3, vI v3)]) (d := 1) E dEc_count_46 (by decide) (j := 4) rfl (by decide) rfl ?_
      refine wm_goto (tgt := 13) E dEc_count_49 (by decide) ?_
      refine wm_pick (lv' := [(0, vR v0), (1, vR v1), (2, vR v2), (3, vI v3), (4, vI (v4 + 1))]) [1, 2, 3, 4, 0] rfl ?_
      exact ih v0 v1 v2 v3 (v4 + 1) m45 h
def B_Ec_count_2  : Nat → Option Nat → Option Nat → Option Nat → Int32 → Mem → Option (Int32 × Mem)
  | 0, _, _, _, _, _ => none
  | n + 1, v0, v1, v2, v3, μ => b1 (gI μ v1 10 1) (fun x4 => if x4 < v3 then b1 (gR μ v0 3 0) (fun x59 => b1 (gI μ v1 10 1) (fun x63 => b1 (aR μ x59 6 x63) (fun x66 => b1 (gI μ v2 10 1) (fun x68 => b1 (aI μ x66 0 x68) (fun x71 => some (x71, μ)))))) else B_Ec_count_13 (fun v0 v1 v2 v3 μ => B_Ec_count_2 n v0 v1 v2 v3 μ) fu v0 v1 v2 v3 0 μ)
set_option maxHeartbeats 4000000 in
set_option maxRecDepth 100000 in
theorem w_Ec_count_2 {X : CX} (E : EV X prog_4_method_2_code 5 "PlaceFinder$ErrorCounter" (some .int)) {μ0 μ' : Mem} {r : Int32} (hQ : RQ X 0 0 μ0 (some (vI r)) μ') (hR : xR X = { frames := 2, cells := 0, slots := 0, locals := 49 }) (hI : X.2.2.2.2.2.2.2.2.2.2.2.1.name = "count")  (n : Nat) : ∀ (v0 : Option Nat) (v1 : Option Nat) (v2 : Option Nat) (v3 : Int32) (μ : Mem) (h : B_Ec_count_2  n v0 v1 v2 v3 μ = some (r, μ')), WM X 5 2 [(0, vR v0), (1, vR v1), (2, vR v2), (3, vI v3)] [] 0 0 μ := by
  induction n with
  | zero => intro v0 v1 v2 v3 μ h; cases h
  | succ n ih =>
    intro v0 v1 v2 v3 μ h
    have h : (b1 (gI μ v1 10 1) (fun x4 => if x4 < v3 then b1 (gR μ v0 3 0) (fun x59 => b1 (gI μ v1 10 1) (fun x63 => b1 (aR μ x59 6 x63) (fun x66 => b1 (gI μ v2 10 1) (fun x68 => b1 (aI μ x66 0 x68) (fun x71 => some (x71, μ)))))) else B_Ec_count_13 (fun v0 v1 v2 v3 μ => B_Ec_count_2 n v0 v1 v2 v3 μ) fu v0 v1 v2 v3 0 μ)) = some (r, μ') := h
    refine wm_iload_n E dEc_count_2 rfl (j := 3) rfl ?_
    refine wm_aload_n E dEc_count_3 rfl (j := 1) rfl ?_
    refine wm_gI E fd_Ec_16 h dEc_count_4 (fun x4 h => ?_)
    refine wm_icmp_gt (tgt := 58) E dEc_count_7 (by decide) (fun c7 => ?_) (fun c7 => ?_)
    · have h := (if_pos c7).symm.trans h
      refine wm_aload_n E dEc_count_58 rfl (j := 0) rfl ?_
      refine wm_gR E fd_Ec_11 h dEc_count_59 (fun x59 h => ?_)
      refine wm_aload_n E dEc_count_62 rfl (j := 1) rfl ?_
      refine wm_gI E fd_Ec_16 h dEc_count_63 (fun x63 h => ?_)
      refine wm_aald (t := 6) E rfl rfl h dEc_count_66 (fun x66 h => ?_)
      refine wm_aload_n E dEc_count_67 rfl (j := 2) rfl ?_
      refine wm_gI E fd_Ec_16 h dEc_count_68 (fun x68 h => ?_)
      refine wm_iald (t := 0) E rfl h dEc_count_71 (fun x71 h => ?_)
      exact wm_iret (rt := .int) E hQ (rtI h) (rtM h) (by decide) (by decide) dEc_count_72
    · have h := (if_neg c7).symm.trans h
      refine wm_iconst (x := 0) E dEc_count_10 (by decide) ?_
      refine wm_istore (lv' := [(4, vI 0), (0, vR v0), (1, vR v1), (2, vR v2), (3, vI v3)]) E dEc_count_11 (by decide) rfl ?_
      refine wm_pick (lv' := [(0, vR v0), (1, vR v1), (2, vR v2), (3, vI v3), (4, vI 0)]) [1, 2, 3, 4, 0] rfl ?_
      exact w_Ec_count_13 E hQ hR hI (fun v0 v1 v2 v3 μ => B_Ec_count_2 n v0 v1 v2 v3 μ) ih fu v0 v1 v2 v3 0 μ h
def S_Ec_count (v0 : Option Nat) (v1 : Option Nat) (v2 : Option Nat) (μ : Mem) : Option (Int32 × Mem) := B_Ec_count_2 fu v0 v1 v2 0 μ
set_option maxHeartbeats 4000000 in
set_option maxRecDepth 100000 in
theorem C_Ec_count (l : Launch) (G : GG) (v0 : Option Nat) (v1 : Option Nat) (v2 : Option Nat) (μ μ' : Mem) (r : Int32) (h : S_Ec_count v0 v1 v2 μ = some (r, μ')) : CT l G y_Ec_count prog_4_method_2_code 5 (some .int) 2 0 0 49 μ [vR v0, vR v1, vR v2] (some (vI r)) μ' := by
  refine wm_met (lv := [(0, vR v0), (1, vR v1), (2, vR v2)]) (by decide +kernel) (Nat.le_of_ble_eq_true rfl) rfl (fun X E hQ hR hI => ?_)
  have h : (B_Ec_count_2 fu v0 v1 v2 0 μ) = some (r, μ') := h
  refine wm_iconst (x := 0) E dEc_count_0 (by decide) ?_
  refine wm_istore_n (lv' := [(3, vI 0), (0, vR v0), (1, vR v1), (2, vR v2)]) E dEc_count_1 rfl (by decide) rfl ?_
  refine wm_pick (lv' := [(0, vR v0), (1, vR v1), (2, vR v2), (3, vI 0)]) [1, 2, 3, 0] rfl ?_
  exact w_Ec_count_2 E hQ hR hI fu v0 v1 v2 0 μ h
def B_St_isLatin1_18  (s0 : Int32) (μ : Mem) : Option (Int32 × Mem) := gd (¬ okZ s0 = true) (some (s0, μ))
set_option maxHeartbeats 4000000 in
set_option maxRecDepth 100000 in
theorem w_St_isLatin1_18 {X : CX} (E : EV X prog_25_method_154_code 1 "java/lang/String" (some .boolean)) {μ0 μ' : Mem} {r : Int32} (hQ : RQ X 0 0 μ0 (some (vI r)) μ') (hR : xR X = { frames := 0, cells := 0, slots := 0, locals := 0 }) (hI : X.2.2.2.2.2.2.2.2.2.2.2.1.name = "isLatin1")  (s0 : Int32) (μ : Mem) (h : B_St_isLatin1_18  s0 μ = some (r, μ')) : WM X 1 18 [] [vI s0] 0 0 μ := by
  have h : (gd (¬ okZ s0 = true) (some (s0, μ))) = some (r, μ') := h
  obtain ⟨hz18, h⟩ := gdS h
  exact wm_zret (rt := .boolean) E hQ (rtI h) (rtM h) (okZN hz18) (by decide) (by decide) dSt_isLatin1_18
def B_St_isLatin1_17   (μ : Mem) : Option (Int32 × Mem) := B_St_isLatin1_18 0 μ
set_option maxHeartbeats 4000000 in
set_option maxRecDepth 100000 in
theorem w_St_isLatin1_17 {X : CX} (E : EV X prog_25_method_154_code 1 "java/lang/String" (some .boolean)) {μ0 μ' : Mem} {r : Int32} (hQ : RQ X 0 0 μ0 (some (vI r)) μ') (hR : xR X = { frames := 0, cells := 0, slots := 0, locals := 0 }) (hI : X.2.2.2.2.2.2.2.2.2.2.2.1.name = "isLatin1")   (μ : Mem) (h : B_St_isLatin1_17   μ = some (r, μ')) : WM X 1 17 [] [] 0 0 μ := by
  have h : (B_St_isLatin1_18 0 μ) = some (r, μ') := h
  refine wm_iconst (x := 0) E dSt_isLatin1_17 (by decide) ?_
  refine wm_pick (lv' := []) [] rfl ?_
  exact w_St_isLatin1_18 E hQ hR hI 0 μ h
def S_St_isLatin1 (v0 : Option Nat) (μ : Mem) : Option (Int32 × Mem) := b0 (1 : Int32) (fun x0 => if x0 = 0 then B_St_isLatin1_17 μ else b1 (gSc μ v0) (fun x7 => if x7 = 0 then B_St_isLatin1_18 1 μ else B_St_isLatin1_17 μ))
set_option maxHeartbeats 4000000 in
set_option maxRecDepth 100000 in
theorem C_St_isLatin1 (l : Launch) (G : GG) (v0 : Option Nat) (μ μ' : Mem) (r : Int32) (h : S_St_isLatin1 v0 μ = some (r, μ')) : CT l G y_St_isLatin1 prog_25_method_154_code 1 (some .boolean) 0 0 0 0 μ [vR v0] (some (vI r)) μ' := by
  refine wm_met (lv := [(0, vR v0)]) (by decide +kernel) (Nat.le_of_ble_eq_true rfl) rfl (fun X E hQ hR hI => ?_)
  have h : (b0 (1 : Int32) (fun x0 => if x0 = 0 then B_St_isLatin1_17 μ else b1 (gSc μ v0) (fun x7 => if x7 = 0 then B_St_isLatin1_18 1 μ else B_St_isLatin1_17 μ))) = some (r, μ') := h
  refine wm_gzC E fl_St_38 dSt_isLatin1_0 ?_
  refine wm_letI h (fun x0 h => ?_)
  refine wm_if_eq (tgt := 17) E dSt_isLatin1_3 (by decide) (fun c3 => ?_) (fun c3 => ?_)
  · have h := (if_pos c3).symm.trans h
    refine wm_pick (lv' := []) [] rfl ?_
    exact w_St_isLatin1_17 E hQ hR hI μ h
  · have h := (if_neg c3).symm.trans h
    refine wm_aload_n E dSt_isLatin1_6 rfl (j := 0) rfl ?_
    refine wm_gSc E fl_St_15 h dSt_isLatin1_7 (fun x7 h => ?_)
    refine wm_if_ne (tgt := 17) E dSt_isLatin1_10 (by decide) (fun c10 => ?_) (fun c10 => ?_)
    · have h := (if_neg c10).symm.trans h
      refine wm_pick (lv' := []) [] rfl ?_
      exact w_St_isLatin1_17 E hQ hR hI μ h
    · have h := (if_pos c10).symm.trans h
      refine wm_iconst (x := 1) E dSt_isLatin1_13 (by decide) ?_
      refine wm_goto (tgt := 18) E dSt_isLatin1_14 (by decide) ?_
      refine wm_pick (lv' := []) [] rfl ?_
      exact w_St_isLatin1_18 E hQ hR hI 1 μ h
def S_St_checkIndex (v0 : Int32) (v1 : Int32) (μ : Mem) : Option (Unit × Mem) := b2 (S_Pr_checkIndex v0 v1 (mB μ) μ) (fun x5 m5 => some ((), m5))
set_option maxHeartbeats 4000000 in
set_option maxRecDepth 100000 in
theorem C_St_checkIndex (l : Launch) (G : GG) (v0 : Int32) (v1 : Int32) (μ μ' : Mem) (r : Unit) (h : S_St_checkIndex v0 v1 μ = some (r, μ')) : CT l G y_St_checkIndex prog_25_method_155_code 2 none 1 0 0 22 μ [vI v0, vI v1] none μ' := by
  refine wm_met (lv := [(0, vI v0), (1, vI v1)]) (by decide +kernel) (Nat.le_of_ble_eq_true rfl) rfl (fun X E hQ hR hI => ?_)
  have h : (b2 (S_Pr_checkIndex v0 v1 (mB μ) μ) (fun x5 m5 => some ((), m5))) = some (r, μ') := h
  refine wm_iload_n E dSt_checkIndex_0 rfl (j := 0) rfl ?_
  refine wm_iload_n E dSt_checkIndex_1 rfl (j := 1) rfl ?_
  refine wm_gzF E fl_St_1053 dSt_checkIndex_2 ?_
  obtain ⟨x5, m5, hc5, h⟩ := b2S h
  refine wm_cS (As := [vI v0, vI v1, vR (mB μ)]) (st := []) E lk_St_1059 sc_Pr_checkIndex (C_Pr_checkIndex (xl X) X.1 v0 v1 (mB μ) μ _ _ hc5) rfl rfl (by rw [hR]; decide) (by rw [hR]; decide) (Nat.le_of_ble_eq_true rfl) dSt_checkIndex_5 ?_
  refine wm_pop E dSt_checkIndex_8 rfl ?_
  exact wm_vret E hQ rfl (rtM h) (by decide) (by decide) dSt_checkIndex_9
def S_Sl_charAt (v0 : Option Nat) (v1 : Int32) (μ : Mem) : Option (Int32 × Mem) := b1 (aLb μ v0) (fun x2 => b2 (S_St_checkIndex v1 x2 μ) (fun x3 m3 => b1 (aB m3 v0 v1) (fun x8 => gd (¬ okC (((x8 &&& 255 : Int32).toUInt32 % 65536).toInt32) = true) (some (((x8 &&& 255 : Int32).toUInt32 % 65536).toInt32, m3)))))
set_option maxHeartbeats 4000000 in
set_option maxRecDepth 100000 in
theorem C_Sl_charAt (l : Launch) (G : GG) (v0 : Option Nat) (v1 : Int32) (μ μ' : Mem) (r : Int32) (h : S_Sl_charAt v0 v1 μ = some (r, μ')) : CT l G y_Sl_charAt prog_26_method_2_code 2 (some .char) 2 0 0 43 μ [vR v0, vI v1] (some (vI r)) μ' := by
  refine wm_met (lv := [(0, vR v0), (1, vI v1)]) (by decide +kernel) (Nat.le_of_ble_eq_true rfl) rfl (fun X E hQ hR hI => ?_)
  have h : (b1 (aLb μ v0) (fun x2 => b2 (S_St_checkIndex v1 x2 μ) (fun x3 m3 => b1 (aB m3 v0 v1) (fun x8 => gd (¬ okC (((x8 &&& 255 : Int32).toUInt32 % 65536).toInt32) = true) (some (((x8 &&& 255 : Int32).toUInt32 % 65536).toInt32, m3)))))) = some (r, μ') := h
  refine wm_iload_n E dSl_charAt_0 rfl (j := 1) rfl ?_
  refine wm_aload_n E dSl_charAt_1 rfl (j := 0) rfl ?_
  refine wm_aLb E h dSl_charAt_2 (fun x2 h => ?_)
  obtain ⟨x3, m3, hc3, h⟩ := b2S h
  refine wm_cS (As := [vI v1, vI x2]) (st := []) E lk_Sl_9 sc_St_checkIndex (C_St_checkIndex (xl X) X.1 v1 x2 μ _ _ hc3) rfl rfl (by rw [hR]; decide) (by rw [hR]; decide) (Nat.le_of_ble_eq_true rfl) dSl_charAt_3 ?_
  refine wm_aload_n E dSl_charAt_6 rfl (j := 0) rfl ?_
  refine wm_iload_n E dSl_charAt_7 rfl (j := 1) rfl ?_
  refine wm_aB E h dSl_charAt_8 (fun x8 h => ?_)
  refine wm_sipush (x := 255) E dSl_charAt_9 (by decide) ?_
  refine wm_iand E dSl_charAt_12 ?_
  refine wm_i2c E dSl_charAt_13 ?_
  obtain ⟨hz14, h⟩ := gdS h
  exact wm_zret (rt := .char) E hQ (rtI h) (rtM h) (okCN hz14) (by decide) (by decide) dSl_charAt_14
def S_Sv_length (v0 : Option Nat) (μ : Mem) : Option (Int32 × Mem) := b1 (aLen μ v0) (fun x1 => some (x1 >>> (1 &&& 31), μ))
set_option maxHeartbeats 4000000 in
set_option maxRecDepth 100000 in
theorem C_Sv_length (l : Launch) (G : GG) (v0 : Option Nat) (μ μ' : Mem) (r : Int32) (h : S_Sv_length v0 μ = some (r, μ')) : CT l G y_Sv_length prog_27_method_6_code 1 (some .int) 0 0 0 0 μ [vR v0] (some (vI r)) μ' := by
  refine wm_met (lv := [(0, vR v0)]) (by decide +kernel) (Nat.le_of_ble_eq_true rfl) rfl (fun X E hQ hR hI => ?_)
  have h : (b1 (aLen μ v0) (fun x1 => some (x1 >>> (1 &&& 31), μ))) = some (r, μ') := h
  refine wm_aload_n E dSv_length_0 rfl (j := 0) rfl ?_
  refine wm_alen E h dSv_length_1 (fun x1 h => ?_)
  refine wm_iconst (x := 1) E dSv_length_2 (by decide) ?_
  refine wm_ishr E dSv_length_3 ?_
  exact wm_iret (rt := .int) E hQ (rtI h) (rtM h) (by decide) (by decide) dSv_length_4
def S_Sv_checkIndex (v0 : Int32) (v1 : Option Nat) (μ : Mem) : Option (Unit × Mem) := b2 (S_Sv_length v1 μ) (fun x2 m2 => b2 (S_St_checkIndex v0 x2 m2) (fun x5 m5 => some ((), m5)))
set_option maxHeartbeats 4000000 in
set_option maxRecDepth 100000 in
theorem C_Sv_checkIndex (l : Launch) (G : GG) (v0 : Int32) (v1 : Option Nat) (μ μ' : Mem) (r : Unit) (h : S_Sv_checkIndex v0 v1 μ = some (r, μ')) : CT l G y_Sv_checkIndex prog_27_method_91_code 2 none 2 0 0 43 μ [vI v0, vR v1] none μ' := by
  refine wm_met (lv := [(0, vI v0), (1, vR v1)]) (by decide +kernel) (Nat.le_of_ble_eq_true rfl) rfl (fun X E hQ hR hI => ?_)
  have h : (b2 (S_Sv_length v1 μ) (fun x2 m2 => b2 (S_St_checkIndex v0 x2 m2) (fun x5 m5 => some ((), m5)))) = some (r, μ') := h
  refine wm_iload_n E dSv_checkIndex_0 rfl (j := 0) rfl ?_
  refine wm_aload_n E dSv_checkIndex_1 rfl (j := 1) rfl ?_
  obtain ⟨x2, m2, hc2, h⟩ := b2S h
  refine wm_cS (As := [vR v1]) (st := [vI v0]) E lk_Sv_48 sc_Sv_length (C_Sv_length (xl X) X.1 v1 μ _ _ hc2) rfl rfl (by rw [hR]; decide) (by rw [hR]; decide) (Nat.le_of_ble_eq_true rfl) dSv_checkIndex_2 ?_
  obtain ⟨x5, m5, hc5, h⟩ := b2S h
  refine wm_cS (As := [vI v0, vI x2]) (st := []) E lk_Sv_414 sc_St_checkIndex (C_St_checkIndex (xl X) X.1 v0 x2 m2 _ _ hc5) rfl rfl (by rw [hR]; decide) (by rw [hR]; decide) (Nat.le_of_ble_eq_true rfl) dSv_checkIndex_5 ?_
  exact wm_vret E hQ rfl (rtM h) (by decide) (by decide) dSv_checkIndex_8
def S_St_charAt (v0 : Option Nat) (v1 : Int32) (μ : Mem) : Option (Int32 × Mem) := b1 (rS μ v0) (fun _ => b2 (S_St_isLatin1 v0 μ) (fun x1 m1 => if x1 = 0 then none else b1 (gSv m1 v0) (fun x8 => b2 (S_Sl_charAt x8 v1 m1) (fun x12 m12 => gd (¬ okC x12 = true) (some (x12, m12))))))
set_option maxHeartbeats 4000000 in
set_option maxRecDepth 100000 in
theorem C_St_charAt (l : Launch) (G : GG) (v0 : Option Nat) (v1 : Int32) (μ μ' : Mem) (r : Int32) (h : S_St_charAt v0 v1 μ = some (r, μ')) : CT l G y_St_charAt prog_25_method_56_code 2 (some .char) 3 0 0 64 μ [vR v0, vI v1] (some (vI r)) μ' := by
  refine wm_met (lv := [(0, vR v0), (1, vI v1)]) (by decide +kernel) (Nat.le_of_ble_eq_true rfl) rfl (fun X E hQ hR hI => ?_)
  have h : (b1 (rS μ v0) (fun _ => b2 (S_St_isLatin1 v0 μ) (fun x1 m1 => if x1 = 0 then none else b1 (gSv m1 v0) (fun x8 => b2 (S_Sl_charAt x8 v1 m1) (fun x12 m12 => gd (¬ okC x12 = true) (some (x12, m12))))))) = some (r, μ') := h
  refine wm_aload_n E dSt_charAt_0 rfl (j := 0) rfl ?_
  obtain ⟨u1, hr1, h⟩ := b1S h
  obtain ⟨x1, m1, hc1, h⟩ := b2S h
  refine wm_cVs (As := []) (st := []) E lk_St_492 im_St_isLatin1 sl_St_isLatin1 hr1 (C_St_isLatin1 (xl X) X.1 v0 μ _ _ hc1) rfl rfl (by rw [hR]; decide) (by rw [hR]; decide) (Nat.le_of_ble_eq_true rfl) dSt_charAt_1 ?_
  refine wm_if_eq (tgt := 16) E dSt_charAt_4 (by decide) (fun c4 => ?_) (fun c4 => ?_)
  · have h := (if_pos c4).symm.trans h
    cases h
  · have h := (if_neg c4).symm.trans h
    refine wm_aload_n E dSt_charAt_7 rfl (j := 0) rfl ?_
    refine wm_gSv E fl_St_9 h dSt_charAt_8 (fun x8 h => ?_)
    refine wm_iload_n E dSt_charAt_11 rfl (j := 1) rfl ?_
    obtain ⟨x12, m12, hc12, h⟩ := b2S h
    refine wm_cS (As := [vR x8, vI v1]) (st := []) E lk_St_495 sc_Sl_charAt (C_Sl_charAt (xl X) X.1 x8 v1 m1 _ _ hc12) rfl rfl (by rw [hR]; decide) (by rw [hR]; decide) (Nat.le_of_ble_eq_true rfl) dSt_charAt_12 ?_
    obtain ⟨hz15, h⟩ := gdS h
    exact wm_zret (rt := .char) E hQ (rtI h) (rtM h) (okCN hz15) (by decide) (by decide) dSt_charAt_15
def S_Wo_soundClass (v0 : Option Nat) (v1 : Int32) (μ : Mem) : Option (Int32 × Mem) := b1 (gR μ v0 10 0) (fun x3 => b1 (aI μ x3 2 v1) (fun x7 => b1 (rS μ (some (mS μ))) (fun _ => b2 (S_St_charAt (some (mS μ)) (x7 - 97) μ) (fun x11 m11 => some (x11 - 48, m11)))))
set_option maxHeartbeats 4000000 in
set_option maxRecDepth 100000 in
theorem C_Wo_soundClass (l : Launch) (G : GG) (v0 : Option Nat) (v1 : Int32) (μ μ' : Mem) (r : Int32) (h : S_Wo_soundClass v0 v1 μ = some (r, μ')) : CT l G y_Wo_soundClass prog_11_method_6_code 2 (some .int) 4 0 0 85 μ [vR v0, vI v1] (some (vI r)) μ' := by
  refine wm_met (lv := [(0, vR v0), (1, vI v1)]) (by decide +kernel) (Nat.le_of_ble_eq_true rfl) rfl (fun X E hQ hR hI => ?_)
  have h : (b1 (gR μ v0 10 0) (fun x3 => b1 (aI μ x3 2 v1) (fun x7 => b1 (rS μ (some (mS μ))) (fun _ => b2 (S_St_charAt (some (mS μ)) (x7 - 97) μ) (fun x11 m11 => some (x11 - 48, m11)))))) = some (r, μ') := h
  refine wm_ldS E rfl dWo_soundClass_0 ?_
  refine wm_aload_n E dWo_soundClass_2 rfl (j := 0) rfl ?_
  refine wm_gR E fd_Wo_9 h dWo_soundClass_3 (fun x3 h => ?_)
  refine wm_iload_n E dWo_soundClass_6 rfl (j := 1) rfl ?_
  refine wm_cald (t := 2) E rfl h dWo_soundClass_7 (fun x7 h => ?_)
  refine wm_bipush (x := 97) E dWo_soundClass_8 (by decide) ?_
  refine wm_isub E dWo_soundClass_10 ?_
  obtain ⟨u11, hr11, h⟩ := b1S h
  obtain ⟨x11, m11, hc11, h⟩ := b2S h
  refine wm_cVs (As := [vI (x7 - 97)]) (st := []) E lk_Wo_31 im_St_charAt sl_St_charAt hr11 (C_St_charAt (xl X) X.1 (some (mS μ)) (x7 - 97) μ _ _ hc11) rfl rfl (by rw [hR]; decide) (by rw [hR]; decide) (Nat.le_of_ble_eq_true rfl) dWo_soundClass_11 ?_
  refine wm_bipush (x := 48) E dWo_soundClass_14 (by decide) ?_
  refine wm_isub E dWo_soundClass_16 ?_
  exact wm_iret (rt := .int) E hQ (rtI h) (rtM h) (by decide) (by decide) dWo_soundClass_17
def B_Wo_soundCode_78  (v1 : Int32) (μ : Mem) : Option (Int32 × Mem) := some (v1, μ)
set_option maxHeartbeats 4000000 in
set_option maxRecDepth 100000 in
theorem w_Wo_soundCode_78 {X : CX} (E : EV X prog_11_method_5_code 5 "PlaceFinder$Word" (some .int)) {μ0 μ' : Mem} {r : Int32} (hQ : RQ X 0 0 μ0 (some (vI r)) μ') (hR : xR X = { frames := 5, cells := 0, slots := 0, locals := 106 }) (hI : X.2.2.2.2.2.2.2.2.2.2.2.1.name = "soundCode")  (v1 : Int32) (μ : Mem) (h : B_Wo_soundCode_78  v1 μ = some (r, μ')) : WM X 5 78 [(1, vI v1)] [] 0 0 μ := by
  have h : (some (v1, μ)) = some (r, μ') := h
  refine wm_iload_n E dWo_soundCode_78 rfl (j := 0) rfl ?_
  exact wm_iret (rt := .int) E hQ (rtI h) (rtM h) (by decide) (by decide) dWo_soundCode_79
def B_Wo_soundCode_72 (k25 : Option Nat → Int32 → Int32 → Int32 → Mem → Option (Int32 × Mem)) (v0 : Option Nat) (v1 : Int32) (v2 : Int32) (v3 : Int32) (μ : Mem) : Option (Int32 × Mem) := k25 v0 v1 v2 (v3 + 1) μ
set_option maxHeartbeats 4000000 in
set_option maxRecDepth 100000 in
theorem w_Wo_soundCode_72 {X : CX} (E : EV X prog_11_method_5_code 5 "PlaceFinder$Word" (some .int)) {μ0 μ' : Mem} {r : Int32} (hQ : RQ X 0 0 μ0 (some (vI r)) μ') (hR : xR X = { frames := 5, cells := 0, slots := 0, locals := 106 }) (hI : X.2.2.2.2.2.2.2.2.2.2.2.1.name = "soundCode") (k25 : Option Nat → Int32 → Int32 → Int32 → Mem → Option (Int32 × Mem)) (hk25 : ∀ (v0 : Option Nat) (v1 : Int32) (v2 : Int32) (v3 : Int32) (μ : Mem), k25 v0 v1 v2 v3 μ = some (r, μ') → WM X 5 25 [(0, vR v0), (1, vI v1), (2, vI v2), (3, vI v3)] [] 0 0 μ) (v0 : Option Nat) (v1 : Int32) (v2 : Int32) (v3 : Int32) (μ : Mem) (h : B_Wo_soundCode_72 k25 v0 v1 v2 v3 μ = some (r, μ')) : WM X 5 72 [(0, vR v0), (1, vI v1), (2, vI v2), (3, vI v3)] [] 0 0 μ := by
  have h : (k25 v0 v1 v2 (v3 + 1) μ) = some (r, μ') := h
  refine wm_iinc (lv' := [(3, vI (v3 + 1)), (0, vR v0), (1, vI v1), (2, vI v2)]) (d := 1) E dWo_soundCode_72 (by decide) (j := 3) rfl (by decide) rfl ?_
  refine wm_goto (tgt := 25) E dWo_soundCode_75 (by decide) ?_
  refine wm_pick (lv' := [(0, vR v0), (1, vI v1), (2, vI v2), (3, vI (v3 + 1))]) [1, 2, 3, 0] rfl ?_
  exact hk25 v0 v1 v2 (v3 + 1) μ h
def B_Wo_soundCode_25  : Nat → Option Nat → Int32 → Int32 → Int32 → Mem → Option (Int32 × Mem)
  | 0, _, _, _, _, _ => none
  | n + 1, v0, v1, v2, v3, μ => b1 (gI μ v0 10 1) (fun x27 => if x27 ≤ v3 then B_Wo_soundCode_78 v1 μ else if 4 ≤ v2 then B_Wo_soundCode_78 v1 μ else b1 (rc μ v0 10) (fun _ => b2 (S_Wo_soundClass v0 v3 μ) (fun x40 m40 => if x40 = 0 then B_Wo_soundCode_72 (fun v0 v1 v2 v3 μ => B_Wo_soundCode_25 n v0 v1 v2 v3 μ) v0 v1 v2 v3 m40 else b1 (rc m40 v0 10) (fun _ => b2 (S_Wo_soundClass v0 (v3 - 1) m40) (fun x56 m56 => if x40 = x56 then B_Wo_soundCode_72 (fun v0 v1 v2 v3 μ => B_Wo_soundCode_25 n v0 v1 v2 v3 μ) v0 v1 v2 v3 m56 else b0 ((v1 <<< (5 &&& 31)) + x40) (fun x68 => B_Wo_soundCode_72 (fun v0 v1 v2 v3 μ => B_Wo_soundCode_25 n v0 v1 v2 v3 μ) v0 x68 (v2 + 1) v3 m56))))))
set_option maxHeartbeats 4000000 in
set_option maxRecDepth 100000 in
theorem w_Wo_soundCode_25 {X : CX} (E : EV X prog_11_method_5_code 5 "PlaceFinder$Word" (some .int)) {μ0 μ' : Mem} {r : Int32} (hQ : RQ X 0 0 μ0 (some (vI r)) μ') (hR : xR X = { frames := 5, cells := 0, slots := 0, locals := 106 }) (hI : X.2.2.2.2.2.2.2.2.2.2.2.1.name = "soundCode")  (n : Nat) : ∀ (v0 : Option Nat) (v1 : Int32) (v2 : Int32) (v3 : Int32) (μ : Mem) (h : B_Wo_soundCode_25  n v0 v1 v2 v3 μ = some (r, μ')), WM X 5 25 [(0, vR v0), (1, vI v1), (2, vI v2), (3, vI v3)] [] 0 0 μ := by
  induction n with
  | zero => intro v0 v1 v2 v3 μ h; cases h
  | succ n ih =>
    intro v0 v1 v2 v3 μ h
    have h : (b1 (gI μ v0 10 1) (fun x27 => if x27 ≤ v3 then B_Wo_soundCode_78 v1 μ else if 4 ≤ v2 then B_Wo_soundCode_78 v1 μ else b1 (rc μ v0 10) (fun _ => b2 (S_Wo_soundClass v0 v3 μ) (fun x40 m40 => if x40 = 0 then B_Wo_soundCode_72 (fun v0 v1 v2 v3 μ => B_Wo_soundCode_25 n v0 v1 v2 v3 μ) v0 v1 v2 v3 m40 else b1 (rc m40 v0 10) (fun _ => b2 (S_Wo_soundClass v0 (v3 - 1) m40) (fun x56 m56 => if x40 = x56 then B_Wo_soundCode_72 (fun v0 v1 v2 v3 μ => B_Wo_soundCode_25 n v0 v1 v2 v3 μ) v0 v1 v2 v3 m56 else b0 ((v1 <<< (5 &&& 31)) + x40) (fun x68 => B_Wo_soundCode_72 (fun v0 v1 v2 v3 μ => B_Wo_soundCode_25 n v0 v1 v2 v3 μ) v0 x68 (v2 + 1) v3 m56))))))) = some (r, μ') := h
    refine wm_iload_n E dWo_soundCode_25 rfl (j := 3) rfl ?_
    refine wm_aload_n E dWo_soundCode_26 rfl (j := 0) rfl ?_
    refine wm_gI E fd_Wo_19 h dWo_soundCode_27 (fun x27 h => ?_)
    refine wm_icmp_ge (tgt := 78) E dWo_soundCode_30 (by decide) (fun c30 => ?_) (fun c30 => ?_)
    · have h := (if_pos c30).symm.trans h
      refine wm_pick (lv' := [(1, vI v1)]) [1] rfl ?_
      exact w_Wo_soundCode_78 E hQ hR hI v1 μ h
    · have h := (if_neg c30).symm.trans h
      refine wm_iload_n E dWo_soundCode_33 rfl (j := 2) rfl ?_
      refine wm_iconst (x := 4) E dWo_soundCode_34 (by decide) ?_
      refine wm_icmp_ge (tgt := 78) E dWo_soundCode_35 (by decide) (fun c35 => ?_) (fun c35 => ?_)
      · have h := (if_pos c35).symm.trans h
        refine wm_pick (lv' := [(1, vI v1)]) [1] rfl ?_
        exact w_Wo_soundCode_78 E hQ hR hI v1 μ h
      · have h := (if_neg c35).symm.trans h
        refine wm_aload_n E dWo_soundCode_38 rfl (j := 0) rfl ?_
        refine wm_iload_n E dWo_soundCode_39 rfl (j := 3) rfl ?_
        obtain ⟨u40, hr40, h⟩ := b1S h
        obtain ⟨x40, m40, hc40, h⟩ := b2S h
        refine wm_cV (ci := 10) (As := [vI v3]) (st := []) E lk_Wo_25 rfl im_Wo_soundClass sl_Wo_soundClass hr40 (C_Wo_soundClass (xl X) X.1 v0 v3 μ _ _ hc40) rfl rfl (by rw [hR]; decide) (by rw [hR]; decide) (Nat.le_of_ble_eq_true rfl) dWo_soundCode_40 ?_
        refine wm_istore (lv' := [(4, vI x40), (0, vR v0), (1, vI v1), (2, vI v2), (3, vI v3)]) E dWo_soundCode_43 (by decide) rfl ?_
        refine wm_iload E dWo_soundCode_45 (j := 0) rfl ?_
        refine wm_if_eq (tgt := 72) E dWo_soundCode_47 (by decide) (fun c47 => ?_) (fun c47 => ?_)
        · have h := (if_pos c47).symm.trans h
          refine wm_pick (lv' := [(0, vR v0), (1, vI v1), (2, vI v2), (3, vI v3)]) [1, 2, 3, 4] rfl ?_
          exact w_Wo_soundCode_72 E hQ hR hI (fun v0 v1 v2 v3 μ => B_Wo_soundCode_25 n v0 v1 v2 v3 μ) ih v0 v1 v2 v3 m40 h
        · have h := (if_neg c47).symm.trans h
          refine wm_iload E dWo_soundCode_50 (j := 0) rfl ?_
          refine wm_aload_n E dWo_soundCode_52 rfl (j := 1) rfl ?_
          refine wm_iload_n E dWo_soundCode_53 rfl (j := 4) rfl ?_
          refine wm_iconst (x := 1) E dWo_soundCode_54 (by decide) ?_
          refine wm_isub E dWo_soundCode_55 ?_
          obtain ⟨u56, hr56, h⟩ := b1S h
          obtain ⟨x56, m56, hc56, h⟩ := b2S h
          refine wm_cV (ci := 10) (As := [vI (v3 - 1)]) (st := [vI x40]) E lk_Wo_25 rfl im_Wo_soundClass sl_Wo_soundClass hr56 (C_Wo_soundClass (xl X) X.1 v0 (v3 - 1) m40 _ _ hc56) rfl rfl (by rw [hR]; decide) (by rw [hR]; decide) (Nat.le_of_ble_eq_true rfl) dWo_soundCode_56 ?_
          refine wm_icmp_eq (tgt := 72) E dWo_soundCode_59 (by decide) (fun c59 => ?_) (fun c59 => ?_)
          · have h := (if_pos c59).symm.trans h
            refine wm_pick (lv' := [(0, vR v0), (1, vI v1), (2, vI v2), (3, vI v3)]) [1, 2, 3, 4] rfl ?_
            exact w_Wo_soundCode_72 E hQ hR hI (fun v0 v1 v2 v3 μ => B_Wo_soundCode_25 n v0 v1 v2 v3 μ) ih v0 v1 v2 v3 m56 h
          · have h := (if_neg c59).symm.trans h
            refine wm_iload_n E dWo_soundCode_62 rfl (j := 2) rfl ?_
            refine wm_iconst (x := 5) E dWo_soundCode_63 (by decide) ?_
            refine wm_ishl E dWo_soundCode_64 ?_
            refine wm_iload E dWo_soundCode_65 (j := 0) rfl ?_
            refine wm_iadd E dWo_soundCode_67 ?_
            refine wm_letI h (fun x68 h => ?_)
            refine wm_istore_n (lv' := [(1, vI x68), (4, vI x40), (0, vR v0), (2, vI v2), (3, vI v3)]) E dWo_soundCode_68 rfl (by decide) rfl ?_
            refine wm_iinc (lv' := [(2, vI (v2 + 1)), (1, vI x68), (4, vI x40), (0, vR v0), (3, vI v3)]) (d := 1) E dWo_soundCode_69 (by decide) (j := 3) rfl (by decide) rfl ?_
            refine wm_pick (lv' := [(0, vR v0), (1, vI x68), (2, vI (v2 + 1)), (3, vI v3)]) [3, 1, 0, 4] rfl ?_
            exact w_Wo_soundCode_72 E hQ hR hI (fun v0 v1 v2 v3 μ => B_Wo_soundCode_25 n v0 v1 v2 v3 μ) ih v0 x68 (v2 + 1) v3 m56 h
def S_Wo_soundCode (v0 : Option Nat) (μ : Mem) : Option (Int32 × Mem) := b1 (gI μ v0 10 1) (fun x1 => if x1 = 0 then some (0, μ) else b1 (gR μ v0 10 0) (fun x10 => b1 (aI μ x10 2 0) (fun x14 => b0 ((x14 - 97) + 1) (fun x20 => B_Wo_soundCode_25 fu v0 x20 1 1 μ))))
set_option maxHeartbeats 4000000 in
set_option maxRecDepth 100000 in
theorem C_Wo_soundCode (l : Launch) (G : GG) (v0 : Option Nat) (μ μ' : Mem) (r : Int32) (h : S_Wo_soundCode v0 μ = some (r, μ')) : CT l G y_Wo_soundCode prog_11_method_5_code 5 (some .int) 5 0 0 106 μ [vR v0] (some (vI r)) μ' := by
  refine wm_met (lv := [(0, vR v0)]) (by decide +kernel) (Nat.le_of_ble_eq_true rfl) rfl (fun X E hQ hR hI => ?_)
  have h : (b1 (gI μ v0 10 1) (fun x1 => if x1 = 0 then some (0, μ) else b1 (gR μ v0 10 0) (fun x10 => b1 (aI μ x10 2 0) (fun x14 => b0 ((x14 - 97) + 1) (fun x20 => B_Wo_soundCode_25 fu v0 x20 1 1 μ))))) = some (r, μ') := h
  refine wm_aload_n E dWo_soundCode_0 rfl (j := 0) rfl ?_
  refine wm_gI E fd_Wo_19 h dWo_soundCode_1 (fun x1 h => ?_)
  refine wm_if_ne (tgt := 9) E dWo_soundCode_4 (by decide) (fun c4 => ?_) (fun c4 => ?_)
  · have h := (if_neg c4).symm.trans h
    refine wm_aload_n E dWo_soundCode_9 rfl (j := 0) rfl ?_
    refine wm_gR E fd_Wo_9 h dWo_soundCode_10 (fun x10 h => ?_)
    refine wm_iconst (x := 0) E dWo_soundCode_13 (by decide) ?_
    refine wm_cald (t := 2) E rfl h dWo_soundCode_14 (fun x14 h => ?_)
    refine wm_bipush (x := 97) E dWo_soundCode_15 (by decide) ?_
    refine wm_isub E dWo_soundCode_17 ?_
    refine wm_iconst (x := 1) E dWo_soundCode_18 (by decide) ?_
    refine wm_iadd E dWo_soundCode_19 ?_
    refine wm_letI h (fun x20 h => ?_)
    refine wm_istore_n (lv' := [(1, vI x20), (0, vR v0)]) E dWo_soundCode_20 rfl (by decide) rfl ?_
    refine wm_iconst (x := 1) E dWo_soundCode_21 (by decide) ?_
    refine wm_istore_n (lv' := [(2, vI 1), (1, vI x20), (0, vR v0)]) E dWo_soundCode_22 rfl (by decide) rfl ?_
    refine wm_iconst (x := 1) E dWo_soundCode_23 (by decide) ?_
    refine wm_istore_n (lv' := [(3, vI 1), (2, vI 1), (1, vI x20), (0, vR v0)]) E dWo_soundCode_24 rfl (by decide) rfl ?_
    refine wm_pick (lv' := [(0, vR v0), (1, vI x20), (2, vI 1), (3, vI 1)]) [3, 2, 1, 0] rfl ?_
    exact w_Wo_soundCode_25 E hQ hR hI fu v0 x20 1 1 μ h
  · have h := (if_pos c4).symm.trans h
    refine wm_iconst (x := 0) E dWo_soundCode_7 (by decide) ?_
    exact wm_iret (rt := .int) E hQ (rtI h) (rtM h) (by decide) (by decide) dWo_soundCode_8
