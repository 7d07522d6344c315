def B_M_firstCondition_38 (k12 : Option Nat → Int32 → Int32 → Int32 → Int32 → Mem → Option (Int32 × Mem)) (v0 : Option Nat) (v1 : Int32) (v2 : Int32) (v4 : Int32) (s0 : Int32) (μ : Mem) : Option (Int32 × Mem) := k12 v0 v1 v2 s0 (v4 + (-1)) μ
set_option maxHeartbeats 4000000 in
set_option maxRecDepth 100000 in
theorem w_M_firstCondition_38 {X : CX} (E : EV X prog_13_method_48_code 5 "PlaceFinderModel" (some .int)) {μ0 μ' : Mem} {r : Int32} (hQ : RQ X 0 0 μ0 (some (vI r)) μ') (hR : xR X = { frames := 1, cells := 0, slots := 0, locals := 22 }) (hI : X.2.2.2.2.2.2.2.2.2.2.2.1.name = "firstCondition") (k12 : Option Nat → Int32 → Int32 → Int32 → Int32 → Mem → Option (Int32 × Mem)) (hk12 : ∀ (v0 : Option Nat) (v1 : Int32) (v2 : Int32) (v3 : Int32) (v4 : Int32) (μ : Mem), k12 v0 v1 v2 v3 v4 μ = some (r, μ') → WM X 5 12 [(0, vR v0), (1, vI v1), (2, vI v2), (3, vI v3), (4, vI v4)] [] 0 0 μ) (v0 : Option Nat) (v1 : Int32) (v2 : Int32) (v4 : Int32) (s0 : Int32) (μ : Mem) (h : B_M_firstCondition_38 k12 v0 v1 v2 v4 s0 μ = some (r, μ')) : WM X 5 38 [(0, vR v0), (1, vI v1), (2, vI v2), (4, vI v4)] [vI s0] 0 0 μ := by
  have h : k12 v0 v1 v2 s0 (v4 + (-1)) μ = some (r, μ') := h
  refine wm_istore_n (lv' := [(3, vI s0), (0, vR v0), (1, vI v1), (2, vI v2), (4, vI v4)]) E dM_firstCondition_38 rfl (by decide) rfl ?_
  refine wm_iinc (lv' := [(4, vI (v4 + (-1))), (3, vI s0), (0, vR v0), (1, vI v1), (2, vI v2)]) (d := (-1)) E dM_firstCondition_39 (by decide) (j := 4) rfl (by decide) rfl ?_
  refine wm_goto (tgt := 12) E dM_firstCondition_42 (by decide) ?_
  refine wm_pick (lv' := [(0, vR v0), (1, vI v1), (2, vI v2), (3, vI s0), (4, vI (v4 + (-1)))]) [2, 3, 4, 1, 0] rfl ?_
  exact hk12 v0 v1 v2 s0 (v4 + (-1)) μ h
def B_M_firstCondition_12  : Nat → Option Nat → Int32 → Int32 → Int32 → Int32 → Mem → Option (Int32 × Mem)
  | 0, _, _, _, _, _, _ => none
  | n + 1, v0, v1, v2, v3, v4, μ => if v4 < 0 then some (v3, μ) else b1 (gR μ v0 12 24) (fun x18 => b1 (aI μ x18 0 v4) (fun x23 => b2 (S_M_in x23 v1 v2 μ) (fun x26 m26 => if x26 = 0 then B_M_firstCondition_38 (fun v0 v1 v2 v3 v4 μ => B_M_firstCondition_12 n v0 v1 v2 v3 v4 μ) v0 v1 v2 v4 v3 m26 else B_M_firstCondition_38 (fun v0 v1 v2 v3 v4 μ => B_M_firstCondition_12 n v0 v1 v2 v3 v4 μ) v0 v1 v2 v4 v4 m26)))
set_option maxHeartbeats 4000000 in
set_option maxRecDepth 100000 in
theorem w_M_firstCondition_12 {X : CX} (E : EV X prog_13_method_48_code 5 "PlaceFinderModel" (some .int)) {μ0 μ' : Mem} {r : Int32} (hQ : RQ X 0 0 μ0 (some (vI r)) μ') (hR : xR X = { frames := 1, cells := 0, slots := 0, locals := 22 }) (hI : X.2.2.2.2.2.2.2.2.2.2.2.1.name = "firstCondition")  (n : Nat) : ∀ (v0 : Option Nat) (v1 : Int32) (v2 : Int32) (v3 : Int32) (v4 : Int32) (μ : Mem) (h : B_M_firstCondition_12  n v0 v1 v2 v3 v4 μ = some (r, μ')), WM X 5 12 [(0, vR v0), (1, vI v1), (2, vI v2), (3, vI v3), (4, vI v4)] [] 0 0 μ := by
  induction n with
  | zero => intro v0 v1 v2 v3 v4 μ h; cases h
  | succ n ih =>
    intro v0 v1 v2 v3 v4 μ h
    have h : if v4 < 0 then some (v3, μ) else b1 (gR μ v0 12 24) (fun x18 => b1 (aI μ x18 0 v4) (fun x23 => b2 (S_M_in x23 v1 v2 μ) (fun x26 m26 => if x26 = 0 then B_M_firstCondition_38 (fun v0 v1 v2 v3 v4 μ => B_M_firstCondition_12 n v0 v1 v2 v3 v4 μ) v0 v1 v2 v4 v3 m26 else B_M_firstCondition_38 (fun v0 v1 v2 v3 v4 μ => B_M_firstCondition_12 n v0 v1 v2 v3 v4 μ) v0 v1 v2 v4 v4 m26))) = some (r, μ') := h
    refine wm_iload E dM_firstCondition_12 (j := 4) rfl ?_
    refine wm_if_lt (tgt := 45) E dM_firstCondition_14 (by decide) (fun c14 => ?_) (fun c14 => ?_)
    · have h := (if_pos c14).symm.trans h
      refine wm_iload_n E dM_firstCondition_45 rfl (j := 3) rfl ?_
      exact wm_iret (rt := .int) E hQ (rtI h) (rtM h) (by decide) (by decide) dM_firstCondition_46
    · have h := (if_neg c14).symm.trans h
      refine wm_aload_n E dM_firstCondition_17 rfl (j := 0) rfl ?_
      refine wm_gR E fd_M_70 h dM_firstCondition_18 (fun x18 h => ?_)
      refine wm_iload E dM_firstCondition_21 (j := 4) rfl ?_
      refine wm_iald (t := 0) E rfl h dM_firstCondition_23 (fun x23 h => ?_)
      refine wm_iload_n E dM_firstCondition_24 rfl (j := 1) rfl ?_
      refine wm_iload_n E dM_firstCondition_25 rfl (j := 2) rfl ?_
      obtain ⟨x26, m26, hc26, h⟩ := b2S h
      refine wm_cS (As := [vI x23, vI v1, vI v2]) (st := []) E lk_M_139 sc_M_in (C_M_in (xl X) X.1 x23 v1 v2 μ _ _ hc26) rfl rfl (by rw [hR]; decide) (by rw [hR]; decide) (by decide) dM_firstCondition_26 ?_
      refine wm_if_eq (tgt := 37) E dM_firstCondition_29 (by decide) (fun c29 => ?_) (fun c29 => ?_)
      · have h := (if_pos c29).symm.trans h
        refine wm_iload_n E dM_firstCondition_37 rfl (j := 3) rfl ?_
        refine wm_pick (lv' := [(0, vR v0), (1, vI v1), (2, vI v2), (4, vI v4)]) [0, 1, 2, 4] rfl ?_
        exact w_M_firstCondition_38 E hQ hR hI (fun v0 v1 v2 v3 v4 μ => B_M_firstCondition_12 n v0 v1 v2 v3 v4 μ) ih v0 v1 v2 v4 v3 m26 h
      · have h := (if_neg c29).symm.trans h
        refine wm_iload E dM_firstCondition_32 (j := 4) rfl ?_
        refine wm_goto (tgt := 38) E dM_firstCondition_34 (by decide) ?_
        refine wm_pick (lv' := [(0, vR v0), (1, vI v1), (2, vI v2), (4, vI v4)]) [0, 1, 2, 4] rfl ?_
        exact w_M_firstCondition_38 E hQ hR hI (fun v0 v1 v2 v3 v4 μ => B_M_firstCondition_12 n v0 v1 v2 v3 v4 μ) ih v0 v1 v2 v4 v4 m26 h
def S_M_firstCondition (v0 : Option Nat) (v1 : Int32) (v2 : Int32) (μ : Mem) : Option (Int32 × Mem) := b0 ((-1)) (fun x1 => b1 (gR μ v0 12 23) (fun x3 => b1 (aI μ x3 0 0) (fun x7 => b0 (x7 - 1) (fun x10 => B_M_firstCondition_12 fu v0 v1 v2 x1 x10 μ))))
set_option maxHeartbeats 4000000 in
set_option maxRecDepth 100000 in
theorem C_M_firstCondition (l : Launch) (G : GG) (v0 : Option Nat) (v1 : Int32) (v2 : Int32) (μ μ' : Mem) (r : Int32) (h : S_M_firstCondition v0 v1 v2 μ = some (r, μ')) : CT l G y_M_firstCondition prog_13_method_48_code 5 (some .int) 1 0 0 22 μ [vR v0, vI v1, vI v2] (some (vI r)) μ' := by
  refine wm_met (lv := [(0, vR v0), (1, vI v1), (2, vI v2)]) (by decide +kernel) (Nat.le_of_ble_eq_true rfl) rfl (fun X E hQ hR hI => ?_)
  have h : b0 ((-1)) (fun x1 => b1 (gR μ v0 12 23) (fun x3 => b1 (aI μ x3 0 0) (fun x7 => b0 (x7 - 1) (fun x10 => B_M_firstCondition_12 fu v0 v1 v2 x1 x10 μ)))) = some (r, μ') := h
  refine wm_iconst (x := -1) E dM_firstCondition_0 (by decide) ?_
  refine wm_letI h (fun x1 h => ?_)
  refine wm_istore_n (lv' := [(3, vI x1), (0, vR v0), (1, vI v1), (2, vI v2)]) E dM_firstCondition_1 rfl (by decide) rfl ?_
  refine wm_aload_n E dM_firstCondition_2 rfl (j := 1) rfl ?_
  refine wm_gR E fd_M_67 h dM_firstCondition_3 (fun x3 h => ?_)
  refine wm_iconst (x := 0) E dM_firstCondition_6 (by decide) ?_
  refine wm_iald (t := 0) E rfl h dM_firstCondition_7 (fun x7 h => ?_)
  refine wm_iconst (x := 1) E dM_firstCondition_8 (by decide) ?_
  refine wm_isub E dM_firstCondition_9 ?_
  refine wm_letI h (fun x10 h => ?_)
  refine wm_istore (lv' := [(4, vI x10), (3, vI x1), (0, vR v0), (1, vI v1), (2, vI v2)]) E dM_firstCondition_10 (by decide) rfl ?_
  refine wm_pick (lv' := [(0, vR v0), (1, vI v1), (2, vI v2), (3, vI x1), (4, vI x10)]) [2, 3, 4, 1, 0] rfl ?_
  exact w_M_firstCondition_12 E hQ hR hI fu v0 v1 v2 x1 x10 μ h
def B_M_makeKeys_221   (μ : Mem) : Option (Unit × Mem) := some ((), μ)
set_option maxHeartbeats 4000000 in
set_option maxRecDepth 100000 in
theorem w_M_makeKeys_221 {X : CX} (E : EV X prog_13_method_49_code 7 "PlaceFinderModel" none) {μ0 μ' : Mem} {r : Unit} (hQ : RQ X 0 0 μ0 none μ') (hR : xR X = { frames := 3, cells := 0, slots := 0, locals := 89 }) (hI : X.2.2.2.2.2.2.2.2.2.2.2.1.name = "makeKeys")   (μ : Mem) (h : B_M_makeKeys_221   μ = some (r, μ')) : WM X 7 221 [] [] 0 0 μ := by
  have h : some ((), μ) = some (r, μ') := h
  exact wm_vret E hQ rfl (rtM h) (by decide) (by decide) dM_makeKeys_221
def B_M_makeKeys_169  (v0 : Option Nat) (v1 : Int32) (v2 : Int32) (v3 : Int32) (μ : Mem) : Option (Unit × Mem) := if v3 = 3 then b1 (gR μ v0 12 30) (fun x175 => b1 (aI μ x175 0 0) (fun x179 => if x179 ≤ 1 then B_M_makeKeys_221 μ else b1 (rc μ v0 12) (fun _ => b2 (S_M_nearest v0 v1 v2 0 μ) (fun x188 m188 => b1 (gR m188 v0 12 52) (fun x192 => b1 (gI m188 v0 12 49) (fun x197 => b1 (sI m188 x192 0 v1 x197) (fun m200 => b1 (gR m200 v0 12 53) (fun x202 => b1 (gL m200 v0 12 47) (fun x207 => b1 (sL m200 x202 1 v1 x207) (fun m210 => b1 (gR m210 v0 12 54) (fun x212 => b1 (gL m210 v0 12 48) (fun x217 => b1 (sL m210 x212 1 v1 x217) (fun m220 => B_M_makeKeys_221 m220))))))))))))) else B_M_makeKeys_221 μ
set_option maxHeartbeats 4000000 in
set_option maxRecDepth 100000 in
theorem w_M_makeKeys_169 {X : CX} (E : EV X prog_13_method_49_code 7 "PlaceFinderModel" none) {μ0 μ' : Mem} {r : Unit} (hQ : RQ X 0 0 μ0 none μ') (hR : xR X = { frames := 3, cells := 0, slots := 0, locals := 89 }) (hI : X.2.2.2.2.2.2.2.2.2.2.2.1.name = "makeKeys")  (v0 : Option Nat) (v1 : Int32) (v2 : Int32) (v3 : Int32) (μ : Mem) (h : B_M_makeKeys_169  v0 v1 v2 v3 μ = some (r, μ')) : WM X 7 169 [(0, vR v0), (1, vI v1), (2, vI v2), (3, vI v3)] [] 0 0 μ := by
  have h : if v3 = 3 then b1 (gR μ v0 12 30) (fun x175 => b1 (aI μ x175 0 0) (fun x179 => if x179 ≤ 1 then B_M_makeKeys_221 μ else b1 (rc μ v0 12) (fun _ => b2 (S_M_nearest v0 v1 v2 0 μ) (fun x188 m188 => b1 (gR m188 v0 12 52) (fun x192 => b1 (gI m188 v0 12 49) (fun x197 => b1 (sI m188 x192 0 v1 x197) (fun m200 => b1 (gR m200 v0 12 53) (fun x202 => b1 (gL m200 v0 12 47) (fun x207 => b1 (sL m200 x202 1 v1 x207) (fun m210 => b1 (gR m210 v0 12 54) (fun x212 => b1 (gL m210 v0 12 48) (fun x217 => b1 (sL m210 x212 1 v1 x217) (fun m220 => B_M_makeKeys_221 m220))))))))))))) else B_M_makeKeys_221 μ = some (r, μ') := h
  refine wm_iload_n E dM_makeKeys_169 rfl (j := 3) rfl ?_
  refine wm_iconst (x := 3) E dM_makeKeys_170 (by decide) ?_
  refine wm_icmp_ne (tgt := 221) E dM_makeKeys_171 (by decide) (fun c171 => ?_) (fun c171 => ?_)
  · have h := (if_neg c171).symm.trans h
    refine wm_pick (lv' := []) [] rfl ?_
    exact w_M_makeKeys_221 E hQ hR hI μ h
  · have h := (if_pos c171).symm.trans h
    refine wm_aload_n E dM_makeKeys_174 rfl (j := 0) rfl ?_
    refine wm_gR E fd_M_88 h dM_makeKeys_175 (fun x175 h => ?_)
    refine wm_iconst (x := 0) E dM_makeKeys_178 (by decide) ?_
    refine wm_iald (t := 0) E rfl h dM_makeKeys_179 (fun x179 h => ?_)
    refine wm_iconst (x := 1) E dM_makeKeys_180 (by decide) ?_
    refine wm_icmp_le (tgt := 221) E dM_makeKeys_181 (by decide) (fun c181 => ?_) (fun c181 => ?_)
    · have h := (if_pos c181).symm.trans h
      refine wm_pick (lv' := []) [] rfl ?_
      exact w_M_makeKeys_221 E hQ hR hI μ h
    · have h := (if_neg c181).symm.trans h
      refine wm_aload_n E dM_makeKeys_184 rfl (j := 0) rfl ?_
      refine wm_iload_n E dM_makeKeys_185 rfl (j := 1) rfl ?_
      refine wm_iload_n E dM_makeKeys_186 rfl (j := 2) rfl ?_
      refine wm_iconst (x := 0) E dM_makeKeys_187 (by decide) ?_
      obtain ⟨u188, hr188, h⟩ := b1S h
      obtain ⟨x188, m188, hc188, h⟩ := b2S h
      refine wm_cV (ci := 12) (As := [vI v1, vI v2, vI 0]) (st := []) E lk_M_257 rfl im_M_nearest sl_M_nearest hr188 (C_M_nearest (xl X) X.1 v0 v1 v2 0 μ _ _ hc188) rfl rfl (by rw [hR]; decide) (by rw [hR]; decide) (by decide) dM_makeKeys_188 ?_
      refine wm_aload_n E dM_makeKeys_191 rfl (j := 0) rfl ?_
      refine wm_gR E fd_M_122 h dM_makeKeys_192 (fun x192 h => ?_)
      refine wm_iload_n E dM_makeKeys_195 rfl (j := 1) rfl ?_
      refine wm_aload_n E dM_makeKeys_196 rfl (j := 0) rfl ?_
      refine wm_gI E fd_M_231 h dM_makeKeys_197 (fun x197 h => ?_)
      refine wm_iast (t := 0) E rfl h dM_makeKeys_200 (fun m200 h => ?_)
      refine wm_aload_n E dM_makeKeys_201 rfl (j := 0) rfl ?_
      refine wm_gR E fd_M_125 h dM_makeKeys_202 (fun x202 h => ?_)
      refine wm_iload_n E dM_makeKeys_205 rfl (j := 1) rfl ?_
      refine wm_aload_n E dM_makeKeys_206 rfl (j := 0) rfl ?_
      refine wm_gL E fd_M_244 h dM_makeKeys_207 (fun x207 h => ?_)
      refine wm_last (t := 1) E rfl h dM_makeKeys_210 (fun m210 h => ?_)
      refine wm_aload_n E dM_makeKeys_211 rfl (j := 0) rfl ?_
      refine wm_gR E fd_M_129 h dM_makeKeys_212 (fun x212 h => ?_)
      refine wm_iload_n E dM_makeKeys_215 rfl (j := 1) rfl ?_
      refine wm_aload_n E dM_makeKeys_216 rfl (j := 0) rfl ?_
      refine wm_gL E fd_M_247 h dM_makeKeys_217 (fun x217 h => ?_)
      refine wm_last (t := 1) E rfl h dM_makeKeys_220 (fun m220 h => ?_)
      refine wm_pick (lv' := []) [] rfl ?_
      exact w_M_makeKeys_221 E hQ hR hI m220 h
def B_M_makeKeys_168  (v0 : Option Nat) (v1 : Int32) (v2 : Int32) (v3 : Int32) (s0 : Option Nat) (s1 : Int32) (s2 : Int32) (μ : Mem) : Option (Unit × Mem) := b1 (sI μ s0 0 s1 s2) (fun m168 => B_M_makeKeys_169 v0 v1 v2 v3 m168)
set_option maxHeartbeats 4000000 in
set_option maxRecDepth 100000 in
theorem w_M_makeKeys_168 {X : CX} (E : EV X prog_13_method_49_code 7 "PlaceFinderModel" none) {μ0 μ' : Mem} {r : Unit} (hQ : RQ X 0 0 μ0 none μ') (hR : xR X = { frames := 3, cells := 0, slots := 0, locals := 89 }) (hI : X.2.2.2.2.2.2.2.2.2.2.2.1.name = "makeKeys")  (v0 : Option Nat) (v1 : Int32) (v2 : Int32) (v3 : Int32) (s0 : Option Nat) (s1 : Int32) (s2 : Int32) (μ : Mem) (h : B_M_makeKeys_168  v0 v1 v2 v3 s0 s1 s2 μ = some (r, μ')) : WM X 7 168 [(0, vR v0), (1, vI v1), (2, vI v2), (3, vI v3)] [vI s2, vI s1, vR s0] 0 0 μ := by
  have h : b1 (sI μ s0 0 s1 s2) (fun m168 => B_M_makeKeys_169 v0 v1 v2 v3 m168) = some (r, μ') := h
  refine wm_iast (t := 0) E rfl h dM_makeKeys_168 (fun m168 h => ?_)
  refine wm_pick (lv' := [(0, vR v0), (1, vI v1), (2, vI v2), (3, vI v3)]) [0, 1, 2, 3] rfl ?_
  exact w_M_makeKeys_169 E hQ hR hI v0 v1 v2 v3 m168 h
def B_M_makeKeys_111  (v0 : Option Nat) (v1 : Int32) (v2 : Int32) (v3 : Int32) (μ : Mem) : Option (Unit × Mem) := if v3 = 2 then b1 (rc μ v0 12) (fun _ => b2 (S_M_firstCondition v0 7 7 μ) (fun x121 m121 => b1 (gR m121 v0 12 51) (fun x127 => if x121 = ((-1)) then b1 (rc m121 v0 12) (fun _ => b2 (S_M_square v0 v1 v2 0 0 m121) (fun x142 m142 => B_M_makeKeys_168 v0 v1 v2 v3 x127 v1 x142 m142)) else b1 (gR m121 v0 12 25) (fun x152 => b1 (aI m121 x152 0 x121) (fun x157 => b1 (gR m121 v0 12 26) (fun x159 => b1 (aI m121 x159 0 x121) (fun x164 => b1 (rc m121 v0 12) (fun _ => b2 (S_M_square v0 v1 v2 x157 x164 m121) (fun x165 m165 => B_M_makeKeys_168 v0 v1 v2 v3 x127 v1 x165 m165))))))))) else B_M_makeKeys_169 v0 v1 v2 v3 μ
set_option maxHeartbeats 4000000 in
set_option maxRecDepth 100000 in
theorem w_M_makeKeys_111 {X : CX} (E : EV X prog_13_method_49_code 7 "PlaceFinderModel" none) {μ0 μ' : Mem} {r : Unit} (hQ : RQ X 0 0 μ0 none μ') (hR : xR X = { frames := 3, cells := 0, slots := 0, locals := 89 }) (hI : X.2.2.2.2.2.2.2.2.2.2.2.1.name = "makeKeys")  (v0 : Option Nat) (v1 : Int32) (v2 : Int32) (v3 : Int32) (μ : Mem) (h : B_M_makeKeys_111  v0 v1 v2 v3 μ = some (r, μ')) : WM X 7 111 [(0, vR v0), (1, vI v1), (2, vI v2), (3, vI v3)] [] 0 0 μ := by
  have h : if v3 = 2 then b1 (rc μ v0 12) (fun _ => b2 (S_M_firstCondition v0 7 7 μ) (fun x121 m121 => b1 (gR m121 v0 12 51) (fun x127 => if x121 = ((-1)) then b1 (rc m121 v0 12) (fun _ => b2 (S_M_square v0 v1 v2 0 0 m121) (fun x142 m142 => B_M_makeKeys_168 v0 v1 v2 v3 x127 v1 x142 m142)) else b1 (gR m121 v0 12 25) (fun x152 => b1 (aI m121 x152 0 x121) (fun x157 => b1 (gR m121 v0 12 26) (fun x159 => b1 (aI m121 x159 0 x121) (fun x164 => b1 (rc m121 v0 12) (fun _ => b2 (S_M_square v0 v1 v2 x157 x164 m121) (fun x165 m165 => B_M_makeKeys_168 v0 v1 v2 v3 x127 v1 x165 m165))))))))) else B_M_makeKeys_169 v0 v1 v2 v3 μ = some (r, μ') := h
  refine wm_iload_n E dM_makeKeys_111 rfl (j := 3) rfl ?_
  refine wm_iconst (x := 2) E dM_makeKeys_112 (by decide) ?_
  refine wm_icmp_ne (tgt := 169) E dM_makeKeys_113 (by decide) (fun c113 => ?_) (fun c113 => ?_)
  · have h := (if_neg c113).symm.trans h
    refine wm_pick (lv' := [(0, vR v0), (1, vI v1), (2, vI v2), (3, vI v3)]) [0, 1, 2, 3] rfl ?_
    exact w_M_makeKeys_169 E hQ hR hI v0 v1 v2 v3 μ h
  · have h := (if_pos c113).symm.trans h
    refine wm_aload_n E dM_makeKeys_116 rfl (j := 0) rfl ?_
    refine wm_bipush (x := 7) E dM_makeKeys_117 (by decide) ?_
    refine wm_bipush (x := 7) E dM_makeKeys_119 (by decide) ?_
    obtain ⟨u121, hr121, h⟩ := b1S h
    obtain ⟨x121, m121, hc121, h⟩ := b2S h
    refine wm_cV (ci := 12) (As := [vI 7, vI 7]) (st := []) E lk_M_278 rfl im_M_firstCondition sl_M_firstCondition hr121 (C_M_firstCondition (xl X) X.1 v0 7 7 μ _ _ hc121) rfl rfl (by rw [hR]; decide) (by rw [hR]; decide) (by decide) dM_makeKeys_121 ?_
    refine wm_istore (lv' := [(4, vI x121), (0, vR v0), (1, vI v1), (2, vI v2), (3, vI v3)]) E dM_makeKeys_124 (by decide) rfl ?_
    refine wm_aload_n E dM_makeKeys_126 rfl (j := 1) rfl ?_
    refine wm_gR E fd_M_119 h dM_makeKeys_127 (fun x127 h => ?_)
    refine wm_iload_n E dM_makeKeys_130 rfl (j := 2) rfl ?_
    refine wm_iload E dM_makeKeys_131 (j := 0) rfl ?_
    refine wm_iconst (x := -1) E dM_makeKeys_133 (by decide) ?_
    refine wm_icmp_ne (tgt := 148) E dM_makeKeys_134 (by decide) (fun c134 => ?_) (fun c134 => ?_)
    · have h := (if_neg c134).symm.trans h
      refine wm_aload_n E dM_makeKeys_148 rfl (j := 1) rfl ?_
      refine wm_iload_n E dM_makeKeys_149 rfl (j := 2) rfl ?_
      refine wm_iload_n E dM_makeKeys_150 rfl (j := 3) rfl ?_
      refine wm_aload_n E dM_makeKeys_151 rfl (j := 1) rfl ?_
      refine wm_gR E fd_M_73 h dM_makeKeys_152 (fun x152 h => ?_)
      refine wm_iload E dM_makeKeys_155 (j := 0) rfl ?_
      refine wm_iald (t := 0) E rfl h dM_makeKeys_157 (fun x157 h => ?_)
      refine wm_aload_n E dM_makeKeys_158 rfl (j := 1) rfl ?_
      refine wm_gR E fd_M_76 h dM_makeKeys_159 (fun x159 h => ?_)
      refine wm_iload E dM_makeKeys_162 (j := 0) rfl ?_
      refine wm_iald (t := 0) E rfl h dM_makeKeys_164 (fun x164 h => ?_)
      obtain ⟨u165, hr165, h⟩ := b1S h
      obtain ⟨x165, m165, hc165, h⟩ := b2S h
      refine wm_cV (ci := 12) (As := [vI v1, vI v2, vI x157, vI x164]) (st := [vI v1, vR x127]) E lk_M_270 rfl im_M_square sl_M_square hr165 (C_M_square (xl X) X.1 v0 v1 v2 x157 x164 m121 _ _ hc165) rfl rfl (by rw [hR]; decide) (by rw [hR]; decide) (by decide) dM_makeKeys_165 ?_
      refine wm_pick (lv' := [(0, vR v0), (1, vI v1), (2, vI v2), (3, vI v3)]) [1, 2, 3, 4] rfl ?_
      exact w_M_makeKeys_168 E hQ hR hI v0 v1 v2 v3 x127 v1 x165 m165 h
    · have h := (if_pos c134).symm.trans h
      refine wm_aload_n E dM_makeKeys_137 rfl (j := 1) rfl ?_
      refine wm_iload_n E dM_makeKeys_138 rfl (j := 2) rfl ?_
      refine wm_iload_n E dM_makeKeys_139 rfl (j := 3) rfl ?_
      refine wm_iconst (x := 0) E dM_makeKeys_140 (by decide) ?_
      refine wm_iconst (x := 0) E dM_makeKeys_141 (by decide) ?_
      obtain ⟨u142, hr142, h⟩ := b1S h
      obtain ⟨x142, m142, hc142, h⟩ := b2S h
      refine wm_cV (ci := 12) (As := [vI v1, vI v2, vI 0, vI 0]) (st := [vI v1, vR x127]) E lk_M_270 rfl im_M_square sl_M_square hr142 (C_M_square (xl X) X.1 v0 v1 v2 0 0 m121 _ _ hc142) rfl rfl (by rw [hR]; decide) (by rw [hR]; decide) (by decide) dM_makeKeys_142 ?_
      refine wm_goto (tgt := 168) E dM_makeKeys_145 (by decide) ?_
      refine wm_pick (lv' := [(0, vR v0), (1, vI v1), (2, vI v2), (3, vI v3)]) [1, 2, 3, 4] rfl ?_
      exact w_M_makeKeys_168 E hQ hR hI v0 v1 v2 v3 x127 v1 x142 m142 h
def B_M_makeKeys_105 (k23 : Option Nat → Int32 → Int32 → Int32 → Int32 → Int32 → Mem → Option (Unit × Mem)) (v0 : Option Nat) (v1 : Int32) (v2 : Int32) (v3 : Int32) (v4 : Int32) (v5 : Int32) (μ : Mem) : Option (Unit × Mem) := k23 v0 v1 v2 v3 v4 (v5 + 1) μ
set_option maxHeartbeats 4000000 in
set_option maxRecDepth 100000 in
theorem w_M_makeKeys_105 {X : CX} (E : EV X prog_13_method_49_code 7 "PlaceFinderModel" none) {μ0 μ' : Mem} {r : Unit} (hQ : RQ X 0 0 μ0 none μ') (hR : xR X = { frames := 3, cells := 0, slots := 0, locals := 89 }) (hI : X.2.2.2.2.2.2.2.2.2.2.2.1.name = "makeKeys") (k23 : Option Nat → Int32 → Int32 → Int32 → Int32 → Int32 → Mem → Option (Unit × Mem)) (hk23 : ∀ (v0 : Option Nat) (v1 : Int32) (v2 : Int32) (v3 : Int32) (v4 : Int32) (v5 : Int32) (μ : Mem), k23 v0 v1 v2 v3 v4 v5 μ = some (r, μ') → WM X 7 23 [(0, vR v0), (1, vI v1), (2, vI v2), (3, vI v3), (4, vI v4), (5, vI v5)] [] 0 0 μ) (v0 : Option Nat) (v1 : Int32) (v2 : Int32) (v3 : Int32) (v4 : Int32) (v5 : Int32) (μ : Mem) (h : B_M_makeKeys_105 k23 v0 v1 v2 v3 v4 v5 μ = some (r, μ')) : WM X 7 105 [(0, vR v0), (1, vI v1), (2, vI v2), (3, vI v3), (4, vI v4), (5, vI v5)] [] 0 0 μ := by
  have h : k23 v0 v1 v2 v3 v4 (v5 + 1) μ = some (r, μ') := h
  refine wm_iinc (lv' := [(5, vI (v5 + 1)), (0, vR v0), (1, vI v1), (2, vI v2), (3, vI v3), (4, vI v4)]) (d := 1) E dM_makeKeys_105 (by decide) (j := 5) rfl (by decide) rfl ?_
  refine wm_goto (tgt := 23) E dM_makeKeys_108 (by decide) ?_
  refine wm_pick (lv' := [(0, vR v0), (1, vI v1), (2, vI v2), (3, vI v3), (4, vI v4), (5, vI (v5 + 1))]) [1, 2, 3, 4, 5, 0] rfl ?_
  exact hk23 v0 v1 v2 v3 v4 (v5 + 1) μ h
def B_M_makeKeys_97 (k23 : Option Nat → Int32 → Int32 → Int32 → Int32 → Int32 → Mem → Option (Unit × Mem)) (v0 : Option Nat) (v1 : Int32) (v2 : Int32) (v3 : Int32) (v4 : Int32) (v5 : Int32) (v6 : Int32) (μ : Mem) : Option (Unit × Mem) := b1 (gR μ v0 12 50) (fun x98 => b1 (sI μ x98 0 v1 v6) (fun m104 => B_M_makeKeys_105 k23 v0 v1 v2 v3 v4 v5 m104))
set_option maxHeartbeats 4000000 in
set_option maxRecDepth 100000 in
theorem w_M_makeKeys_97 {X : CX} (E : EV X prog_13_method_49_code 7 "PlaceFinderModel" none) {μ0 μ' : Mem} {r : Unit} (hQ : RQ X 0 0 μ0 none μ') (hR : xR X = { frames := 3, cells := 0, slots := 0, locals := 89 }) (hI : X.2.2.2.2.2.2.2.2.2.2.2.1.name = "makeKeys") (k23 : Option Nat → Int32 → Int32 → Int32 → Int32 → Int32 → Mem → Option (Unit × Mem)) (hk23 : ∀ (v0 : Option Nat) (v1 : Int32) (v2 : Int32) (v3 : Int32) (v4 : Int32) (v5 : Int32) (μ : Mem), k23 v0 v1 v2 v3 v4 v5 μ = some (r, μ') → WM X 7 23 [(0, vR v0), (1, vI v1), (2, vI v2), (3, vI v3), (4, vI v4), (5, vI v5)] [] 0 0 μ) (v0 : Option Nat) (v1 : Int32) (v2 : Int32) (v3 : Int32) (v4 : Int32) (v5 : Int32) (v6 : Int32) (μ : Mem) (h : B_M_makeKeys_97 k23 v0 v1 v2 v3 v4 v5 v6 μ = some (r, μ')) : WM X 7 97 [(0, vR v0), (1, vI v1), (2, vI v2), (3, vI v3), (4, vI v4), (5, vI v5), (6, vI v6)] [] 0 0 μ := by
  have h : b1 (gR μ v0 12 50) (fun x98 => b1 (sI μ x98 0 v1 v6) (fun m104 => B_M_makeKeys_105 k23 v0 v1 v2 v3 v4 v5 m104)) = some (r, μ') := h
  refine wm_aload_n E dM_makeKeys_97 rfl (j := 0) rfl ?_
  refine wm_gR E fd_M_116 h dM_makeKeys_98 (fun x98 h => ?_)
  refine wm_iload_n E dM_makeKeys_101 rfl (j := 1) rfl ?_
  refine wm_iload E dM_makeKeys_102 (j := 6) rfl ?_
  refine wm_iast (t := 0) E rfl h dM_makeKeys_104 (fun m104 h => ?_)
  refine wm_pick (lv' := [(0, vR v0), (1, vI v1), (2, vI v2), (3, vI v3), (4, vI v4), (5, vI v5)]) [0, 1, 2, 3, 4, 5] rfl ?_
  exact w_M_makeKeys_105 E hQ hR hI k23 hk23 v0 v1 v2 v3 v4 v5 m104 h
def B_M_makeKeys_72 (k23 : Option Nat → Int32 → Int32 → Int32 → Int32 → Int32 → Mem → Option (Unit × Mem)) (v0 : Option Nat) (v1 : Int32) (v2 : Int32) (v3 : Int32) (v4 : Int32) (v5 : Int32) (v6 : Int32) (μ : Mem) : Option (Unit × Mem) := b1 (gR μ v0 12 50) (fun x73 => b1 (aI μ x73 0 v1) (fun x77 => if x77 = ((-1)) then B_M_makeKeys_97 k23 v0 v1 v2 v3 v4 v5 v6 μ else b1 (gR μ v0 12 50) (fun x86 => b1 (aI μ x86 0 v1) (fun x90 => b1 (rc μ v0 12) (fun _ => b2 (S_M_compareWords v0 v6 x90 μ) (fun x91 m91 => if 0 ≤ x91 then B_M_makeKeys_105 k23 v0 v1 v2 v3 v4 v5 m91 else B_M_makeKeys_97 k23 v0 v1 v2 v3 v4 v5 v6 m91))))))
set_option maxHeartbeats 4000000 in
set_option maxRecDepth 100000 in
theorem w_M_makeKeys_72 {X : CX} (E : EV X prog_13_method_49_code 7 "PlaceFinderModel" none) {μ0 μ' : Mem} {r : Unit} (hQ : RQ X 0 0 μ0 none μ') (hR : xR X = { frames := 3, cells := 0, slots := 0, locals := 89 }) (hI : X.2.2.2.2.2.2.2.2.2.2.2.1.name = "makeKeys") (k23 : Option Nat → Int32 → Int32 → Int32 → Int32 → Int32 → Mem → Option (Unit × Mem)) (hk23 : ∀ (v0 : Option Nat) (v1 : Int32) (v2 : Int32) (v3 : Int32) (v4 : Int32) (v5 : Int32) (μ : Mem), k23 v0 v1 v2 v3 v4 v5 μ = some (r, μ') → WM X 7 23 [(0, vR v0), (1, vI v1), (2, vI v2), (3, vI v3), (4, vI v4), (5, vI v5)] [] 0 0 μ) (v0 : Option Nat) (v1 : Int32) (v2 : Int32) (v3 : Int32) (v4 : Int32) (v5 : Int32) (v6 : Int32) (μ : Mem) (h : B_M_makeKeys_72 k23 v0 v1 v2 v3 v4 v5 v6 μ = some (r, μ')) : WM X 7 72 [(0, vR v0), (1, vI v1), (2, vI v2), (3, vI v3), (4, vI v4), (5, vI v5), (6, vI v6)] [] 0 0 μ := by
  have h : b1 (gR μ v0 12 50) (fun x73 => b1 (aI μ x73 0 v1) (fun x77 => if x77 = ((-1)) then B_M_makeKeys_97 k23 v0 v1 v2 v3 v4 v5 v6 μ else b1 (gR μ v0 12 50) (fun x86 => b1 (aI μ x86 0 v1) (fun x90 => b1 (rc μ v0 12) (fun _ => b2 (S_M_compareWords v0 v6 x90 μ) (fun x91 m91 => if 0 ≤ x91 then B_M_makeKeys_105 k23 v0 v1 v2 v3 v4 v5 m91 else B_M_makeKeys_97 k23 v0 v1 v2 v3 v4 v5 v6 m91)))))) = some (r, μ') := h
  refine wm_aload_n E dM_makeKeys_72 rfl (j := 0) rfl ?_
  refine wm_gR E fd_M_116 h dM_makeKeys_73 (fun x73 h => ?_)
  refine wm_iload_n E dM_makeKeys_76 rfl (j := 1) rfl ?_
  refine wm_iald (t := 0) E rfl h dM_makeKeys_77 (fun x77 h => ?_)
  refine wm_iconst (x := -1) E dM_makeKeys_78 (by decide) ?_
  refine wm_icmp_eq (tgt := 97) E dM_makeKeys_79 (by decide) (fun c79 => ?_) (fun c79 => ?_)
  · have h := (if_pos c79).symm.trans h
    refine wm_pick (lv' := [(0, vR v0), (1, vI v1), (2, vI v2), (3, vI v3), (4, vI v4), (5, vI v5), (6, vI v6)]) [0, 1, 2, 3, 4, 5, 6] rfl ?_
    exact w_M_makeKeys_97 E hQ hR hI k23 hk23 v0 v1 v2 v3 v4 v5 v6 μ h
  · have h := (if_neg c79).symm.trans h
    refine wm_aload_n E dM_makeKeys_82 rfl (j := 0) rfl ?_
    refine wm_iload E dM_makeKeys_83 (j := 6) rfl ?_
    refine wm_aload_n E dM_makeKeys_85 rfl (j := 0) rfl ?_
    refine wm_gR E fd_M_116 h dM_makeKeys_86 (fun x86 h => ?_)
    refine wm_iload_n E dM_makeKeys_89 rfl (j := 1) rfl ?_
    refine wm_iald (t := 0) E rfl h dM_makeKeys_90 (fun x90 h => ?_)
    obtain ⟨u91, hr91, h⟩ := b1S h
    obtain ⟨x91, m91, hc91, h⟩ := b2S h
    refine wm_cV (ci := 12) (As := [vI v6, vI x90]) (st := []) E lk_M_281 rfl im_M_compareWords sl_M_compareWords hr91 (C_M_compareWords (xl X) X.1 v0 v6 x90 μ _ _ hc91) rfl rfl (by rw [hR]; decide) (by rw [hR]; decide) (by decide) dM_makeKeys_91 ?_
    refine wm_if_ge (tgt := 105) E dM_makeKeys_94 (by decide) (fun c94 => ?_) (fun c94 => ?_)
    · have h := (if_pos c94).symm.trans h
      refine wm_pick (lv' := [(0, vR v0), (1, vI v1), (2, vI v2), (3, vI v3), (4, vI v4), (5, vI v5)]) [0, 1, 2, 3, 4, 5] rfl ?_
      exact w_M_makeKeys_105 E hQ hR hI k23 hk23 v0 v1 v2 v3 v4 v5 m91 h
    · have h := (if_neg c94).symm.trans h
      refine wm_pick (lv' := [(0, vR v0), (1, vI v1), (2, vI v2), (3, vI v3), (4, vI v4), (5, vI v5), (6, vI v6)]) [0, 1, 2, 3, 4, 5, 6] rfl ?_
      exact w_M_makeKeys_97 E hQ hR hI k23 hk23 v0 v1 v2 v3 v4 v5 v6 m91 h
def B_M_makeKeys_23  : Nat → Option Nat → Int32 → Int32 → Int32 → Int32 → Int32 → Mem → Option (Unit × Mem)
  | 0, _, _, _, _, _, _, _ => none
  | n + 1, v0, v1, v2, v3, v4, v5, μ => b1 (gR μ v0 12 9) (fun x26 => b1 (aI μ x26 0 v1) (fun x30 => if x30 ≤ v5 then B_M_makeKeys_111 v0 v1 v2 v3 μ else b0 ((2 * v1) + v5) (fun x40 => b1 (rc μ v0 12) (fun _ => b2 (S_M_isOf v0 x40 v2 μ) (fun x46 m46 => if x46 = 0 then B_M_makeKeys_105 (fun v0 v1 v2 v3 v4 v5 μ => B_M_makeKeys_23 n v0 v1 v2 v3 v4 v5 μ) v0 v1 v2 v3 v4 v5 m46 else if v4 = ((-1)) then B_M_makeKeys_72 (fun v0 v1 v2 v3 v4 v5 μ => B_M_makeKeys_23 n v0 v1 v2 v3 v4 v5 μ) v0 v1 v2 v3 v4 v5 x40 m46 else b1 (rc m46 v0 12) (fun _ => b2 (S_M_isNamed v0 x40 v4 m46) (fun x63 m63 => if x63 = 0 then B_M_makeKeys_105 (fun v0 v1 v2 v3 v4 v5 μ => B_M_makeKeys_23 n v0 v1 v2 v3 v4 v5 μ) v0 v1 v2 v3 v4 v5 m63 else B_M_makeKeys_72 (fun v0 v1 v2 v3 v4 v5 μ => B_M_makeKeys_23 n v0 v1 v2 v3 v4 v5 μ) v0 v1 v2 v3 v4 v5 x40 m63)))))))
set_option maxHeartbeats 4000000 in
set_option maxRecDepth 100000 in
theorem w_M_makeKeys_23 {X : CX} (E : EV X prog_13_method_49_code 7 "PlaceFinderModel" none) {μ0 μ' : Mem} {r : Unit} (hQ : RQ X 0 0 μ0 none μ') (hR : xR X = { frames := 3, cells := 0, slots := 0, locals := 89 }) (hI : X.2.2.2.2.2.2.2.2.2.2.2.1.name = "makeKeys")  (n : Nat) : ∀ (v0 : Option Nat) (v1 : Int32) (v2 : Int32) (v3 : Int32) (v4 : Int32) (v5 : Int32) (μ : Mem) (h : B_M_makeKeys_23  n v0 v1 v2 v3 v4 v5 μ = some (r, μ')), WM X 7 23 [(0, vR v0), (1, vI v1), (2, vI v2), (3, vI v3), (4, vI v4), (5, vI v5)] [] 0 0 μ := by
  induction n with
  | zero => intro v0 v1 v2 v3 v4 v5 μ h; cases h
  | succ n ih =>
    intro v0 v1 v2 v3 v4 v5 μ h
    have h : b1 (gR μ v0 12 9) (fun x26 => b1 (aI μ x26 0 v1) (fun x30 => if x30 ≤ v5 then B_M_makeKeys_111 v0 v1 v2 v3 μ else b0 ((2 * v1) + v5) (fun x40 => b1 (rc μ v0 12) (fun _ => b2 (S_M_isOf v0 x40 v2 μ) (fun x46 m46 => if x46 = 0 then B_M_makeKeys_105 (fun v0 v1 v2 v3 v4 v5 μ => B_M_makeKeys_23 n v0 v1 v2 v3 v4 v5 μ) v0 v1 v2 v3 v4 v5 m46 else if v4 = ((-1)) then B_M_makeKeys_72 (fun v0 v1 v2 v3 v4 v5 μ => B_M_makeKeys_23 n v0 v1 v2 v3 v4 v5 μ) v0 v1 v2 v3 v4 v5 x40 m46 else b1 (rc m46 v0 12) (fun _ => b2 (S_M_isNamed v0 x40 v4 m46) (fun x63 m63 => if x63 = 0 then B_M_makeKeys_105 (fun v0 v1 v2 v3 v4 v5 μ => B_M_makeKeys_23 n v0 v1 v2 v3 v4 v5 μ) v0 v1 v2 v3 v4 v5 m63 else B_M_makeKeys_72 (fun v0 v1 v2 v3 v4 v5 μ => B_M_makeKeys_23 n v0 v1 v2 v3 v4 v5 μ) v0 v1 v2 v3 v4 v5 x40 m63))))))) = some (r, μ') := h
    refine wm_iload E dM_makeKeys_23 (j := 5) rfl ?_
    refine wm_aload_n E dM_makeKeys_25 rfl (j := 0) rfl ?_
    refine wm_gR E fd_M_31 h dM_makeKeys_26 (fun x26 h => ?_)
    refine wm_iload_n E dM_makeKeys_29 rfl (j := 1) rfl ?_
    refine wm_iald (t := 0) E rfl h dM_makeKeys_30 (fun x30 h => ?_)
    refine wm_icmp_ge (tgt := 111) E dM_makeKeys_31 (by decide) (fun c31 => ?_) (fun c31 => ?_)
    · have h := (if_pos c31).symm.trans h
      refine wm_pick (lv' := [(0, vR v0), (1, vI v1), (2, vI v2), (3, vI v3)]) [0, 1, 2, 3] rfl ?_
      exact w_M_makeKeys_111 E hQ hR hI v0 v1 v2 v3 μ h
    · have h := (if_neg c31).symm.trans h
      refine wm_iconst (x := 2) E dM_makeKeys_34 (by decide) ?_
      refine wm_iload_n E dM_makeKeys_35 rfl (j := 1) rfl ?_
      refine wm_imul E dM_makeKeys_36 ?_
      refine wm_iload E dM_makeKeys_37 (j := 5) rfl ?_
      refine wm_iadd E dM_makeKeys_39 ?_
      refine wm_letI h (fun x40 h => ?_)
      refine wm_istore (lv' := [(6, vI x40), (0, vR v0), (1, vI v1), (2, vI v2), (3, vI v3), (4, vI v4), (5, vI v5)]) E dM_makeKeys_40 (by decide) rfl ?_
      refine wm_aload_n E dM_makeKeys_42 rfl (j := 1) rfl ?_
      refine wm_iload E dM_makeKeys_43 (j := 0) rfl ?_
      refine wm_iload_n E dM_makeKeys_45 rfl (j := 3) rfl ?_
      obtain ⟨u46, hr46, h⟩ := b1S h
      obtain ⟨x46, m46, hc46, h⟩ := b2S h
      refine wm_cV (ci := 12) (As := [vI x40, vI v2]) (st := []) E lk_M_212 rfl im_M_isOf sl_M_isOf hr46 (C_M_isOf (xl X) X.1 v0 x40 v2 μ _ _ hc46) rfl rfl (by rw [hR]; decide) (by rw [hR]; decide) (by decide) dM_makeKeys_46 ?_
      refine wm_if_eq (tgt := 105) E dM_makeKeys_49 (by decide) (fun c49 => ?_) (fun c49 => ?_)
      · have h := (if_pos c49).symm.trans h
        refine wm_pick (lv' := [(0, vR v0), (1, vI v1), (2, vI v2), (3, vI v3), (4, vI v4), (5, vI v5)]) [1, 2, 3, 4, 5, 6] rfl ?_
        exact w_M_makeKeys_105 E hQ hR hI (fun v0 v1 v2 v3 v4 v5 μ => B_M_makeKeys_23 n v0 v1 v2 v3 v4 v5 μ) ih v0 v1 v2 v3 v4 v5 m46 h
      · have h := (if_neg c49).symm.trans h
        refine wm_iload E dM_makeKeys_52 (j := 5) rfl ?_
        refine wm_iconst (x := -1) E dM_makeKeys_54 (by decide) ?_
        refine wm_icmp_eq (tgt := 72) E dM_makeKeys_55 (by decide) (fun c55 => ?_) (fun c55 => ?_)
        · have h := (if_pos c55).symm.trans h
          refine wm_pick (lv' := [(0, vR v0), (1, vI v1), (2, vI v2), (3, vI v3), (4, vI v4), (5, vI v5), (6, vI x40)]) [1, 2, 3, 4, 5, 6, 0] rfl ?_
          exact w_M_makeKeys_72 E hQ hR hI (fun v0 v1 v2 v3 v4 v5 μ => B_M_makeKeys_23 n v0 v1 v2 v3 v4 v5 μ) ih v0 v1 v2 v3 v4 v5 x40 m46 h
        · have h := (if_neg c55).symm.trans h
          refine wm_aload_n E dM_makeKeys_58 rfl (j := 1) rfl ?_
          refine wm_iload E dM_makeKeys_59 (j := 0) rfl ?_
          refine wm_iload E dM_makeKeys_61 (j := 5) rfl ?_
          obtain ⟨u63, hr63, h⟩ := b1S h
          obtain ⟨x63, m63, hc63, h⟩ := b2S h
          refine wm_cV (ci := 12) (As := [vI x40, vI v4]) (st := []) E lk_M_215 rfl im_M_isNamed sl_M_isNamed hr63 (C_M_isNamed (xl X) X.1 v0 x40 v4 m46 _ _ hc63) rfl rfl (by rw [hR]; decide) (by rw [hR]; decide) (by decide) dM_makeKeys_63 ?_
          refine wm_if_ne (tgt := 72) E dM_makeKeys_66 (by decide) (fun c66 => ?_) (fun c66 => ?_)
          · have h := (if_neg c66).symm.trans h
            refine wm_pick (lv' := [(0, vR v0), (1, vI v1), (2, vI v2), (3, vI v3), (4, vI v4), (5, vI v5), (6, vI x40)]) [1, 2, 3, 4, 5, 6, 0] rfl ?_
            exact w_M_makeKeys_72 E hQ hR hI (fun v0 v1 v2 v3 v4 v5 μ => B_M_makeKeys_23 n v0 v1 v2 v3 v4 v5 μ) ih v0 v1 v2 v3 v4 v5 x40 m63 h
          · have h := (if_pos c66).symm.trans h
            refine wm_goto (tgt := 105) E dM_makeKeys_69 (by decide) ?_
            refine wm_pick (lv' := [(0, vR v0), (1, vI v1), (2, vI v2), (3, vI v3), (4, vI v4), (5, vI v5)]) [1, 2, 3, 4, 5, 6] rfl ?_
            exact w_M_makeKeys_105 E hQ hR hI (fun v0 v1 v2 v3 v4 v5 μ => B_M_makeKeys_23 n v0 v1 v2 v3 v4 v5 μ) ih v0 v1 v2 v3 v4 v5 m63 h
def S_M_makeKeys (v0 : Option Nat) (v1 : Int32) (v2 : Int32) (v3 : Int32) (μ : Mem) : Option (Unit × Mem) := if v3 = 1 then b1 (rc μ v0 12) (fun _ => b2 (S_M_firstCondition v0 0 3 μ) (fun x8 m8 => b1 (gR m8 v0 12 50) (fun x14 => b1 (sI m8 x14 0 v1 ((-1))) (fun m19 => B_M_makeKeys_23 fu v0 v1 v2 v3 x8 0 m19)))) else B_M_makeKeys_111 v0 v1 v2 v3 μ
set_option maxHeartbeats 4000000 in
set_option maxRecDepth 100000 in
theorem C_M_makeKeys (l : Launch) (G : GG) (v0 : Option Nat) (v1 : Int32) (v2 : Int32) (v3 : Int32) (μ μ' : Mem) (r : Unit) (h : S_M_makeKeys v0 v1 v2 v3 μ = some (r, μ')) : CT l G y_M_makeKeys prog_13_method_49_code 7 none 3 0 0 89 μ [vR v0, vI v1, vI v2, vI v3] none μ' := by
  refine wm_met (lv := [(0, vR v0), (1, vI v1), (2, vI v2), (3, vI v3)]) (by decide +kernel) (Nat.le_of_ble_eq_true rfl) rfl (fun X E hQ hR hI => ?_)
  have h : if v3 = 1 then b1 (rc μ v0 12) (fun _ => b2 (S_M_firstCondition v0 0 3 μ) (fun x8 m8 => b1 (gR m8 v0 12 50) (fun x14 => b1 (sI m8 x14 0 v1 ((-1))) (fun m19 => B_M_makeKeys_23 fu v0 v1 v2 v3 x8 0 m19)))) else B_M_makeKeys_111 v0 v1 v2 v3 μ = some (r, μ') := h
  refine wm_iload_n E dM_makeKeys_0 rfl (j := 3) rfl ?_
  refine wm_iconst (x := 1) E dM_makeKeys_1 (by decide) ?_
  refine wm_icmp_ne (tgt := 111) E dM_makeKeys_2 (by decide) (fun c2 => ?_) (fun c2 => ?_)
  · have h := (if_neg c2).symm.trans h
    refine wm_pick (lv' := [(0, vR v0), (1, vI v1), (2, vI v2), (3, vI v3)]) [0, 1, 2, 3] rfl ?_
    exact w_M_makeKeys_111 E hQ hR hI v0 v1 v2 v3 μ h
  · have h := (if_pos c2).symm.trans h
    refine wm_aload_n E dM_makeKeys_5 rfl (j := 0) rfl ?_
    refine wm_iconst (x := 0) E dM_makeKeys_6 (by decide) ?_
    refine wm_iconst (x := 3) E dM_makeKeys_7 (by decide) ?_
    obtain ⟨u8, hr8, h⟩ := b1S h
    obtain ⟨x8, m8, hc8, h⟩ := b2S h
    refine wm_cV (ci := 12) (As := [vI 0, vI 3]) (st := []) E lk_M_278 rfl im_M_firstCondition sl_M_firstCondition hr8 (C_M_firstCondition (xl X) X.1 v0 0 3 μ _ _ hc8) rfl rfl (by rw [hR]; decide) (by rw [hR]; decide) (by decide) dM_makeKeys_8 ?_
    refine wm_istore (lv' := [(4, vI x8), (0, vR v0), (1, vI v1), (2, vI v2), (3, vI v3)]) E dM_makeKeys_11 (by decide) rfl ?_
    refine wm_aload_n E dM_makeKeys_13 rfl (j := 1) rfl ?_
    refine wm_gR E fd_M_116 h dM_makeKeys_14 (fun x14 h => ?_)
    refine wm_iload_n E dM_makeKeys_17 rfl (j := 2) rfl ?_
    refine wm_iconst (x := -1) E dM_makeKeys_18 (by decide) ?_
    refine wm_iast (t := 0) E rfl h dM_makeKeys_19 (fun m19 h => ?_)
    refine wm_iconst (x := 0) E dM_makeKeys_20 (by decide) ?_
    refine wm_istore (lv' := [(5, vI 0), (4, vI x8), (0, vR v0), (1, vI v1), (2, vI v2), (3, vI v3)]) E dM_makeKeys_21 (by decide) rfl ?_
    refine wm_pick (lv' := [(0, vR v0), (1, vI v1), (2, vI v2), (3, vI v3), (4, vI x8), (5, vI 0)]) [2, 3, 4, 5, 1, 0] rfl ?_
    exact w_M_makeKeys_23 E hQ hR hI fu v0 v1 v2 v3 x8 0 m19 h
def B_M_compareKeys_119   (μ : Mem) : Option (Int32 × Mem) := some (0, μ)
set_option maxHeartbeats 4000000 in
set_option maxRecDepth 100000 in
theorem w_M_compareKeys_119 {X : CX} (E : EV X prog_13_method_50_code 6 "PlaceFinderModel" (some .int)) {μ0 μ' : Mem} {r : Int32} (hQ : RQ X 0 0 μ0 (some (vI r)) μ') (hR : xR X = { frames := 1, cells := 0, slots := 0, locals := 40 }) (hI : X.2.2.2.2.2.2.2.2.2.2.2.1.name = "compareKeys")   (μ : Mem) (h : B_M_compareKeys_119   μ = some (r, μ')) : WM X 6 119 [] [] 0 0 μ := by
  have h : some (0, μ) = some (r, μ') := h
  refine wm_iconst (x := 0) E dM_compareKeys_119 (by decide) ?_
  exact wm_iret (rt := .int) E hQ (rtI h) (rtM h) (by decide) (by decide) dM_compareKeys_120
def B_M_compareKeys_179  (s0 : Int32) (μ : Mem) : Option (Int32 × Mem) := some (s0, μ)
set_option maxHeartbeats 4000000 in
set_option maxRecDepth 100000 in
theorem w_M_compareKeys_179 {X : CX} (E : EV X prog_13_method_50_code 6 "PlaceFinderModel" (some .int)) {μ0 μ' : Mem} {r : Int32} (hQ : RQ X 0 0 μ0 (some (vI r)) μ') (hR : xR X = { frames := 1, cells := 0, slots := 0, locals := 40 }) (hI : X.2.2.2.2.2.2.2.2.2.2.2.1.name = "compareKeys")  (s0 : Int32) (μ : Mem) (h : B_M_compareKeys_179  s0 μ = some (r, μ')) : WM X 6 179 [] [vI s0] 0 0 μ := by
  have h : some (s0, μ) = some (r, μ') := h
  exact wm_iret (rt := .int) E hQ (rtI h) (rtM h) (by decide) (by decide) dM_compareKeys_179
def B_M_compareKeys_104  (s0 : Int32) (μ : Mem) : Option (Int32 × Mem) := some (s0, μ)
set_option maxHeartbeats 4000000 in
set_option maxRecDepth 100000 in
theorem w_M_compareKeys_104 {X : CX} (E : EV X prog_13_method_50_code 6 "PlaceFinderModel" (some .int)) {μ0 μ' : Mem} {r : Int32} (hQ : RQ X 0 0 μ0 (some (vI r)) μ') (hR : xR X = { frames := 1, cells := 0, slots := 0, locals := 40 }) (hI : X.2.2.2.2.2.2.2.2.2.2.2.1.name = "compareKeys")  (s0 : Int32) (μ : Mem) (h : B_M_compareKeys_104  s0 μ = some (r, μ')) : WM X 6 104 [] [vI s0] 0 0 μ := by
  have h : some (s0, μ) = some (r, μ') := h
  exact wm_iret (rt := .int) E hQ (rtI h) (rtM h) (by decide) (by decide) dM_compareKeys_104
def B_M_compareKeys_59  (s0 : Int32) (μ : Mem) : Option (Int32 × Mem) := some (s0, μ)
set_option maxHeartbeats 4000000 in
set_option maxRecDepth 100000 in
theorem w_M_compareKeys_59 {X : CX} (E : EV X prog_13_method_50_code 6 "PlaceFinderModel" (some .int)) {μ0 μ' : Mem} {r : Int32} (hQ : RQ X 0 0 μ0 (some (vI r)) μ') (hR : xR X = { frames := 1, cells := 0, slots := 0, locals := 40 }) (hI : X.2.2.2.2.2.2.2.2.2.2.2.1.name = "compareKeys")  (s0 : Int32) (μ : Mem) (h : B_M_compareKeys_59  s0 μ = some (r, μ')) : WM X 6 59 [] [vI s0] 0 0 μ := by
  have h : some (s0, μ) = some (r, μ') := h
  exact wm_iret (rt := .int) E hQ (rtI h) (rtM h) (by decide) (by decide) dM_compareKeys_59
def S_M_compareKeys (v0 : Option Nat) (v1 : Int32) (v2 : Int32) (v3 : Int32) (μ : Mem) : Option (Int32 × Mem) := if v3 = 1 then b1 (gR μ v0 12 50) (fun x6 => b1 (aI μ x6 0 v1) (fun x10 => b1 (gR μ v0 12 50) (fun x14 => b1 (aI μ x14 0 v2) (fun x18 => if x10 = ((-1)) then if x18 = ((-1)) then B_M_compareKeys_59 0 μ else B_M_compareKeys_59 1 μ else if x18 = ((-1)) then B_M_compareKeys_59 ((-1)) μ else b1 (rc μ v0 12) (fun _ => b2 (S_M_compareWords v0 x10 x18 μ) (fun x56 m56 => B_M_compareKeys_59 x56 m56)))))) else if v3 = 2 then b1 (gR μ v0 12 51) (fun x66 => b1 (aI μ x66 0 v1) (fun x70 => b1 (gR μ v0 12 51) (fun x72 => b1 (aI μ x72 0 v2) (fun x76 => if x76 ≤ x70 then b1 (gR μ v0 12 51) (fun x85 => b1 (aI μ x85 0 v1) (fun x89 => b1 (gR μ v0 12 51) (fun x91 => b1 (aI μ x91 0 v2) (fun x95 => if x89 ≤ x95 then B_M_compareKeys_104 0 μ else B_M_compareKeys_104 1 μ)))) else B_M_compareKeys_104 ((-1)) μ)))) else if v3 = 0 then B_M_compareKeys_119 μ else b1 (gR μ v0 12 30) (fun x110 => b1 (aI μ x110 0 0) (fun x114 => if 2 ≤ x114 then b1 (gR μ v0 12 52) (fun x122 => b1 (aI μ x122 0 v1) (fun x126 => b1 (gR μ v0 12 52) (fun x128 => b1 (aI μ x128 0 v2) (fun x132 => if x126 = x132 then b1 (gR μ v0 12 53) (fun x153 => b1 (aL μ x153 1 v1) (fun x157 => b1 (gR μ v0 12 54) (fun x159 => b1 (aL μ x159 1 v1) (fun x163 => b1 (gR μ v0 12 53) (fun x165 => b1 (aL μ x165 1 v2) (fun x169 => b1 (gR μ v0 12 54) (fun x171 => b1 (aL μ x171 1 v2) (fun x175 => b2 (S_M_compareFractions x157 x163 x169 x175 μ) (fun x176 m176 => B_M_compareKeys_179 x176 m176))))))))) else b1 (gR μ v0 12 52) (fun x137 => b1 (aI μ x137 0 v1) (fun x141 => b1 (gR μ v0 12 52) (fun x143 => b1 (aI μ x143 0 v2) (fun x147 => B_M_compareKeys_179 (x141 - x147) μ)))))))) else B_M_compareKeys_119 μ))
set_option maxHeartbeats 4000000 in
set_option maxRecDepth 100000 in
theorem C_M_compareKeys (l : Launch) (G : GG) (v0 : Option Nat) (v1 : Int32) (v2 : Int32) (v3 : Int32) (μ μ' : Mem) (r : Int32) (h : S_M_compareKeys v0 v1 v2 v3 μ = some (r, μ')) : CT l G y_M_compareKeys prog_13_method_50_code 6 (some .int) 1 0 0 40 μ [vR v0, vI v1, vI v2, vI v3] (some (vI r)) μ' := by
  refine wm_met (lv := [(0, vR v0), (1, vI v1), (2, vI v2), (3, vI v3)]) (by decide +kernel) (Nat.le_of_ble_eq_true rfl) rfl (fun X E hQ hR hI => ?_)
  have h : if v3 = 1 then b1 (gR μ v0 12 50) (fun x6 => b1 (aI μ x6 0 v1) (fun x10 => b1 (gR μ v0 12 50) (fun x14 => b1 (aI μ x14 0 v2) (fun x18 => if x10 = ((-1)) then if x18 = ((-1)) then B_M_compareKeys_59 0 μ else B_M_compareKeys_59 1 μ else if x18 = ((-1)) then B_M_compareKeys_59 ((-1)) μ else b1 (rc μ v0 12) (fun _ => b2 (S_M_compareWords v0 x10 x18 μ) (fun x56 m56 => B_M_compareKeys_59 x56 m56)))))) else if v3 = 2 then b1 (gR μ v0 12 51) (fun x66 => b1 (aI μ x66 0 v1) (fun x70 => b1 (gR μ v0 12 51) (fun x72 => b1 (aI μ x72 0 v2) (fun x76 => if x76 ≤ x70 then b1 (gR μ v0 12 51) (fun x85 => b1 (aI μ x85 0 v1) (fun x89 => b1 (gR μ v0 12 51) (fun x91 => b1 (aI μ x91 0 v2) (fun x95 => if x89 ≤ x95 then B_M_compareKeys_104 0 μ else B_M_compareKeys_104 1 μ)))) else B_M_compareKeys_104 ((-1)) μ)))) else if v3 = 0 then B_M_compareKeys_119 μ else b1 (gR μ v0 12 30) (fun x110 => b1 (aI μ x110 0 0) (fun x114 => if 2 ≤ x114 then b1 (gR μ v0 12 52) (fun x122 => b1 (aI μ x122 0 v1) (fun x126 => b1 (gR μ v0 12 52) (fun x128 => b1 (aI μ x128 0 v2) (fun x132 => if x126 = x132 then b1 (gR μ v0 12 53) (fun x153 => b1 (aL μ x153 1 v1) (fun x157 => b1 (gR μ v0 12 54) (fun x159 => b1 (aL μ x159 1 v1) (fun x163 => b1 (gR μ v0 12 53) (fun x165 => b1 (aL μ x165 1 v2) (fun x169 => b1 (gR μ v0 12 54) (fun x171 => b1 (aL μ x171 1 v2) (fun x175 => b2 (S_M_compareFractions x157 x163 x169 x175 μ) (fun x176 m176 => B_M_compareKeys_179 x176 m176))))))))) else b1 (gR μ v0 12 52) (fun x137 => b1 (aI μ x137 0 v1) (fun x141 => b1 (gR μ v0 12 52) (fun x143 => b1 (aI μ x143 0 v2) (fun x147 => B_M_compareKeys_179 (x141 - x147) μ)))))))) else B_M_compareKeys_119 μ)) = some (r, μ') := h
  refine wm_iload_n E dM_compareKeys_0 rfl (j := 3) rfl ?_
  refine wm_iconst (x := 1) E dM_compareKeys_1 (by decide) ?_
  refine wm_icmp_ne (tgt := 60) E dM_compareKeys_2 (by decide) (fun c2 => ?_) (fun c2 => ?_)
  · have h := (if_neg c2).symm.trans h
    refine wm_iload_n E dM_compareKeys_60 rfl (j := 3) rfl ?_
    refine wm_iconst (x := 2) E dM_compareKeys_61 (by decide) ?_
    refine wm_icmp_ne (tgt := 105) E dM_compareKeys_62 (by decide) (fun c62 => ?_) (fun c62 => ?_)
    · have h := (if_neg c62).symm.trans h
      refine wm_iload_n E dM_compareKeys_105 rfl (j := 3) rfl ?_
      refine wm_if_eq (tgt := 119) E dM_compareKeys_106 (by decide) (fun c106 => ?_) (fun c106 => ?_)
      · have h := (if_pos c106).symm.trans h
        refine wm_pick (lv' := []) [] rfl ?_
        exact w_M_compareKeys_119 E hQ hR hI μ h
      · have h := (if_neg c106).symm.trans h
        refine wm_aload_n E dM_compareKeys_109 rfl (j := 0) rfl ?_
        refine wm_gR E fd_M_88 h dM_compareKeys_110 (fun x110 h => ?_)
        refine wm_iconst (x := 0) E dM_compareKeys_113 (by decide) ?_
        refine wm_iald (t := 0) E rfl h dM_compareKeys_114 (fun x114 h => ?_)
        refine wm_iconst (x := 2) E dM_compareKeys_115 (by decide) ?_
        refine wm_icmp_ge (tgt := 121) E dM_compareKeys_116 (by decide) (fun c116 => ?_) (fun c116 => ?_)
        · have h := (if_pos c116).symm.trans h
          refine wm_aload_n E dM_compareKeys_121 rfl (j := 0) rfl ?_
          refine wm_gR E fd_M_122 h dM_compareKeys_122 (fun x122 h => ?_)
          refine wm_iload_n E dM_compareKeys_125 rfl (j := 1) rfl ?_
          refine wm_iald (t := 0) E rfl h dM_compareKeys_126 (fun x126 h => ?_)
          refine wm_aload_n E dM_compareKeys_127 rfl (j := 0) rfl ?_
          refine wm_gR E fd_M_122 h dM_compareKeys_128 (fun x128 h => ?_)
          refine wm_iload_n E dM_compareKeys_131 rfl (j := 2) rfl ?_
          refine wm_iald (t := 0) E rfl h dM_compareKeys_132 (fun x132 h => ?_)
          refine wm_icmp_eq (tgt := 152) E dM_compareKeys_133 (by decide) (fun c133 => ?_) (fun c133 => ?_)
          · have h := (if_pos c133).symm.trans h
            refine wm_aload_n E dM_compareKeys_152 rfl (j := 0) rfl ?_
            refine wm_gR E fd_M_125 h dM_compareKeys_153 (fun x153 h => ?_)
            refine wm_iload_n E dM_compareKeys_156 rfl (j := 1) rfl ?_
            refine wm_lald (t := 1) E rfl h dM_compareKeys_157 (fun x157 h => ?_)
            refine wm_aload_n E dM_compareKeys_158 rfl (j := 0) rfl ?_
            refine wm_gR E fd_M_129 h dM_compareKeys_159 (fun x159 h => ?_)
            refine wm_iload_n E dM_compareKeys_162 rfl (j := 1) rfl ?_
            refine wm_lald (t := 1) E rfl h dM_compareKeys_163 (fun x163 h => ?_)
            refine wm_aload_n E dM_compareKeys_164 rfl (j := 0) rfl ?_
            refine wm_gR E fd_M_125 h dM_compareKeys_165 (fun x165 h => ?_)
            refine wm_iload_n E dM_compareKeys_168 rfl (j := 2) rfl ?_
            refine wm_lald (t := 1) E rfl h dM_compareKeys_169 (fun x169 h => ?_)
            refine wm_aload_n E dM_compareKeys_170 rfl (j := 0) rfl ?_
            refine wm_gR E fd_M_129 h dM_compareKeys_171 (fun x171 h => ?_)
            refine wm_iload_n E dM_compareKeys_174 rfl (j := 2) rfl ?_
            refine wm_lald (t := 1) E rfl h dM_compareKeys_175 (fun x175 h => ?_)
            obtain ⟨x176, m176, hc176, h⟩ := b2S h
            refine wm_cS (As := [vL x157, vL x163, vL x169, vL x175]) (st := []) E lk_M_240 sc_M_compareFractions (C_M_compareFractions (xl X) X.1 x157 x163 x169 x175 μ _ _ hc176) rfl rfl (by rw [hR]; decide) (by rw [hR]; decide) (by decide) dM_compareKeys_176 ?_
            refine wm_pick (lv' := []) [] rfl ?_
            exact w_M_compareKeys_179 E hQ hR hI x176 m176 h
          · have h := (if_neg c133).symm.trans h
            refine wm_aload_n E dM_compareKeys_136 rfl (j := 0) rfl ?_
            refine wm_gR E fd_M_122 h dM_compareKeys_137 (fun x137 h => ?_)
            refine wm_iload_n E dM_compareKeys_140 rfl (j := 1) rfl ?_
            refine wm_iald (t := 0) E rfl h dM_compareKeys_141 (fun x141 h => ?_)
            refine wm_aload_n E dM_compareKeys_142 rfl (j := 0) rfl ?_
            refine wm_gR E fd_M_122 h dM_compareKeys_143 (fun x143 h => ?_)
            refine wm_iload_n E dM_compareKeys_146 rfl (j := 2) rfl ?_
            refine wm_iald (t := 0) E rfl h dM_compareKeys_147 (fun x147 h => ?_)
            refine wm_isub E dM_compareKeys_148 ?_
            refine wm_goto (tgt := 179) E dM_compareKeys_149 (by decide) ?_
            refine wm_pick (lv' := []) [] rfl ?_
            exact w_M_compareKeys_179 E hQ hR hI (x141 - x147) μ h
        · have h := (if_neg c116).symm.trans h
          refine wm_pick (lv' := []) [] rfl ?_
          exact w_M_compareKeys_119 E hQ hR hI μ h
    · have h := (if_pos c62).symm.trans h
      refine wm_aload_n E dM_compareKeys_65 rfl (j := 0) rfl ?_
      refine wm_gR E fd_M_119 h dM_compareKeys_66 (fun x66 h => ?_)
      refine wm_iload_n E dM_compareKeys_69 rfl (j := 1) rfl ?_
      refine wm_iald (t := 0) E rfl h dM_compareKeys_70 (fun x70 h => ?_)
      refine wm_aload_n E dM_compareKeys_71 rfl (j := 0) rfl ?_
      refine wm_gR E fd_M_119 h dM_compareKeys_72 (fun x72 h => ?_)
      refine wm_iload_n E dM_compareKeys_75 rfl (j := 2) rfl ?_
      refine wm_iald (t := 0) E rfl h dM_compareKeys_76 (fun x76 h => ?_)
      refine wm_icmp_ge (tgt := 84) E dM_compareKeys_77 (by decide) (fun c77 => ?_) (fun c77 => ?_)
      · have h := (if_pos c77).symm.trans h
        refine wm_aload_n E dM_compareKeys_84 rfl (j := 0) rfl ?_
        refine wm_gR E fd_M_119 h dM_compareKeys_85 (fun x85 h => ?_)
        refine wm_iload_n E dM_compareKeys_88 rfl (j := 1) rfl ?_
        refine wm_iald (t := 0) E rfl h dM_compareKeys_89 (fun x89 h => ?_)
        refine wm_aload_n E dM_compareKeys_90 rfl (j := 0) rfl ?_
        refine wm_gR E fd_M_119 h dM_compareKeys_91 (fun x91 h => ?_)
        refine wm_iload_n E dM_compareKeys_94 rfl (j := 2) rfl ?_
        refine wm_iald (t := 0) E rfl h dM_compareKeys_95 (fun x95 h => ?_)
        refine wm_icmp_le (tgt := 103) E dM_compareKeys_96 (by decide) (fun c96 => ?_) (fun c96 => ?_)
        · have h := (if_pos c96).symm.trans h
          refine wm_iconst (x := 0) E dM_compareKeys_103 (by decide) ?_
          refine wm_pick (lv' := []) [] rfl ?_
          exact w_M_compareKeys_104 E hQ hR hI 0 μ h
        · have h := (if_neg c96).symm.trans h
          refine wm_iconst (x := 1) E dM_compareKeys_99 (by decide) ?_
          refine wm_goto (tgt := 104) E dM_compareKeys_100 (by decide) ?_
          refine wm_pick (lv' := []) [] rfl ?_
          exact w_M_compareKeys_104 E hQ hR hI 1 μ h
      · have h := (if_neg c77).symm.trans h
        refine wm_iconst (x := -1) E dM_compareKeys_80 (by decide) ?_
        refine wm_goto (tgt := 104) E dM_compareKeys_81 (by decide) ?_
        refine wm_pick (lv' := []) [] rfl ?_
        exact w_M_compareKeys_104 E hQ hR hI ((-1)) μ h
  · have h := (if_pos c2).symm.trans h
    refine wm_aload_n E dM_compareKeys_5 rfl (j := 0) rfl ?_
    refine wm_gR E fd_M_116 h dM_compareKeys_6 (fun x6 h => ?_)
    refine wm_iload_n E dM_compareKeys_9 rfl (j := 1) rfl ?_
    refine wm_iald (t := 0) E rfl h dM_compareKeys_10 (fun x10 h => ?_)
    refine wm_istore (lv' := [(4, vI x10), (0, vR v0), (1, vI v1), (2, vI v2), (3, vI v3)]) E dM_compareKeys_11 (by decide) rfl ?_
    refine wm_aload_n E dM_compareKeys_13 rfl (j := 1) rfl ?_
    refine wm_gR E fd_M_116 h dM_compareKeys_14 (fun x14 h => ?_)
    refine wm_iload_n E dM_compareKeys_17 rfl (j := 3) rfl ?_
    refine wm_iald (t := 0) E rfl h dM_compareKeys_18 (fun x18 h => ?_)
    refine wm_istore (lv' := [(5, vI x18), (4, vI x10), (0, vR v0), (1, vI v1), (2, vI v2), (3, vI v3)]) E dM_compareKeys_19 (by decide) rfl ?_
    refine wm_iload E dM_compareKeys_21 (j := 1) rfl ?_
    refine wm_iconst (x := -1) E dM_compareKeys_23 (by decide) ?_
    refine wm_icmp_ne (tgt := 41) E dM_compareKeys_24 (by decide) (fun c24 => ?_) (fun c24 => ?_)
    · have h := (if_neg c24).symm.trans h
      refine wm_iload E dM_compareKeys_41 (j := 0) rfl ?_
      refine wm_iconst (x := -1) E dM_compareKeys_43 (by decide) ?_
      refine wm_icmp_ne (tgt := 51) E dM_compareKeys_44 (by decide) (fun c44 => ?_) (fun c44 => ?_)
      · have h := (if_neg c44).symm.trans h
        refine wm_aload_n E dM_compareKeys_51 rfl (j := 2) rfl ?_
        refine wm_iload E dM_compareKeys_52 (j := 1) rfl ?_
        refine wm_iload E dM_compareKeys_54 (j := 0) rfl ?_
        obtain ⟨u56, hr56, h⟩ := b1S h
        obtain ⟨x56, m56, hc56, h⟩ := b2S h
        refine wm_cV (ci := 12) (As := [vI x10, vI x18]) (st := []) E lk_M_281 rfl im_M_compareWords sl_M_compareWords hr56 (C_M_compareWords (xl X) X.1 v0 x10 x18 μ _ _ hc56) rfl rfl (by rw [hR]; decide) (by rw [hR]; decide) (by decide) dM_compareKeys_56 ?_
        refine wm_pick (lv' := []) [] rfl ?_
        exact w_M_compareKeys_59 E hQ hR hI x56 m56 h
      · have h := (if_pos c44).symm.trans h
        refine wm_iconst (x := -1) E dM_compareKeys_47 (by decide) ?_
        refine wm_goto (tgt := 59) E dM_compareKeys_48 (by decide) ?_
        refine wm_pick (lv' := []) [] rfl ?_
        exact w_M_compareKeys_59 E hQ hR hI ((-1)) μ h
    · have h := (if_pos c24).symm.trans h
      refine wm_iload E dM_compareKeys_27 (j := 0) rfl ?_
      refine wm_iconst (x := -1) E dM_compareKeys_29 (by decide) ?_
      refine wm_icmp_ne (tgt := 37) E dM_compareKeys_30 (by decide) (fun c30 => ?_) (fun c30 => ?_)
      · have h := (if_neg c30).symm.trans h
        refine wm_iconst (x := 1) E dM_compareKeys_37 (by decide) ?_
        refine wm_goto (tgt := 59) E dM_compareKeys_38 (by decide) ?_
        refine wm_pick (lv' := []) [] rfl ?_
        exact w_M_compareKeys_59 E hQ hR hI 1 μ h
      · have h := (if_pos c30).symm.trans h
        refine wm_iconst (x := 0) E dM_compareKeys_33 (by decide) ?_
        refine wm_goto (tgt := 59) E dM_compareKeys_34 (by decide) ?_
        refine wm_pick (lv' := []) [] rfl ?_
        exact w_M_compareKeys_59 E hQ hR hI 0 μ h
def B_M_insert_46  (v0 : Option Nat) (v1 : Int32) (v3 : Int32) (μ : Mem) : Option (Unit × Mem) := b1 (gR μ v0 12 37) (fun x47 => b1 (sI μ x47 0 v3 v1) (fun m52 => b1 (gI m52 v0 12 36) (fun x55 => b1 (pV m52 v0 12 36 (vI (x55 + 1))) (fun m60 => some ((), m60)))))
set_option maxHeartbeats 4000000 in
set_option maxRecDepth 100000 in
theorem w_M_insert_46 {X : CX} (E : EV X prog_13_method_51_code 4 "PlaceFinderModel" none) {μ0 μ' : Mem} {r : Unit} (hQ : RQ X 0 0 μ0 none μ') (hR : xR X = { frames := 2, cells := 0, slots := 0, locals := 65 }) (hI : X.2.2.2.2.2.2.2.2.2.2.2.1.name = "insert")  (v0 : Option Nat) (v1 : Int32) (v3 : Int32) (μ : Mem) (h : B_M_insert_46  v0 v1 v3 μ = some (r, μ')) : WM X 4 46 [(0, vR v0), (1, vI v1), (3, vI v3)] [] 0 0 μ := by
  have h : b1 (gR μ v0 12 37) (fun x47 => b1 (sI μ x47 0 v3 v1) (fun m52 => b1 (gI m52 v0 12 36) (fun x55 => b1 (pV m52 v0 12 36 (vI (x55 + 1))) (fun m60 => some ((), m60))))) = some (r, μ') := h
  refine wm_aload_n E dM_insert_46 rfl (j := 0) rfl ?_
  refine wm_gR E fd_M_107 h dM_insert_47 (fun x47 h => ?_)
  refine wm_iload_n E dM_insert_50 rfl (j := 2) rfl ?_
  refine wm_iload_n E dM_insert_51 rfl (j := 1) rfl ?_
  refine wm_iast (t := 0) E rfl h dM_insert_52 (fun m52 h => ?_)
  refine wm_aload_n E dM_insert_53 rfl (j := 0) rfl ?_
  refine wm_dup E dM_insert_54 rfl ?_
  refine wm_gI E fd_M_284 h dM_insert_55 (fun x55 h => ?_)
  refine wm_iconst (x := 1) E dM_insert_58 (by decide) ?_
  refine wm_iadd E dM_insert_59 ?_
  refine wm_pI E fp_M_284 (fun q => by cases q) h dM_insert_60 (fun m60 h => ?_)
  exact wm_vret E hQ rfl (rtM h) (by decide) (by decide) dM_insert_63
def B_M_insert_5  : Nat → Option Nat → Int32 → Int32 → Int32 → Mem → Option (Unit × Mem)
  | 0, _, _, _, _, _ => none
  | n + 1, v0, v1, v2, v3, μ => if v3 ≤ 0 then B_M_insert_46 v0 v1 v3 μ else b1 (gR μ v0 12 37) (fun x11 => b1 (aI μ x11 0 (v3 - 1)) (fun x17 => b1 (rc μ v0 12) (fun _ => b2 (S_M_compareKeys v0 x17 v1 v2 μ) (fun x20 m20 => if x20 ≤ 0 then B_M_insert_46 v0 v1 v3 m20 else b1 (gR m20 v0 12 37) (fun x27 => b1 (gR m20 v0 12 37) (fun x32 => b1 (aI m20 x32 0 (v3 - 1)) (fun x38 => b1 (sI m20 x27 0 v3 x38) (fun m39 => (fun v0 v1 v2 v3 μ => B_M_insert_5 n v0 v1 v2 v3 μ) v0 v1 v2 (v3 + (-1)) m39))))))))
set_option maxHeartbeats 4000000 in
set_option maxRecDepth 100000 in
theorem w_M_insert_5 {X : CX} (E : EV X prog_13_method_51_code 4 "PlaceFinderModel" none) {μ0 μ' : Mem} {r : Unit} (hQ : RQ X 0 0 μ0 none μ') (hR : xR X = { frames := 2, cells := 0, slots := 0, locals := 65 }) (hI : X.2.2.2.2.2.2.2.2.2.2.2.1.name = "insert")  (n : Nat) : ∀ (v0 : Option Nat) (v1 : Int32) (v2 : Int32) (v3 : Int32) (μ : Mem) (h : B_M_insert_5  n v0 v1 v2 v3 μ = some (r, μ')), WM X 4 5 [(0, vR v0), (1, vI v1), (2, vI v2), (3, vI v3)] [] 0 0 μ := by
  induction n with
  | zero => intro v0 v1 v2 v3 μ h; cases h
  | succ n ih =>
    intro v0 v1 v2 v3 μ h
    have h : if v3 ≤ 0 then B_M_insert_46 v0 v1 v3 μ else b1 (gR μ v0 12 37) (fun x11 => b1 (aI μ x11 0 (v3 - 1)) (fun x17 => b1 (rc μ v0 12) (fun _ => b2 (S_M_compareKeys v0 x17 v1 v2 μ) (fun x20 m20 => if x20 ≤ 0 then B_M_insert_46 v0 v1 v3 m20 else b1 (gR m20 v0 12 37) (fun x27 => b1 (gR m20 v0 12 37) (fun x32 => b1 (aI m20 x32 0 (v3 - 1)) (fun x38 => b1 (sI m20 x27 0 v3 x38) (fun m39 => (fun v0 v1 v2 v3 μ => B_M_insert_5 n v0 v1 v2 v3 μ) v0 v1 v2 (v3 + (-1)) m39)))))))) = some (r, μ') := h
    refine wm_iload_n E dM_insert_5 rfl (j := 3) rfl ?_
    refine wm_if_le (tgt := 46) E dM_insert_6 (by decide) (fun c6 => ?_) (fun c6 => ?_)
    · have h := (if_pos c6).symm.trans h
      refine wm_pick (lv' := [(0, vR v0), (1, vI v1), (3, vI v3)]) [0, 1, 3] rfl ?_
      exact w_M_insert_46 E hQ hR hI v0 v1 v3 μ h
    · have h := (if_neg c6).symm.trans h
      refine wm_aload_n E dM_insert_9 rfl (j := 0) rfl ?_
      refine wm_aload_n E dM_insert_10 rfl (j := 0) rfl ?_
      refine wm_gR E fd_M_107 h dM_insert_11 (fun x11 h => ?_)
      refine wm_iload_n E dM_insert_14 rfl (j := 3) rfl ?_
      refine wm_iconst (x := 1) E dM_insert_15 (by decide) ?_
      refine wm_isub E dM_insert_16 ?_
      refine wm_iald (t := 0) E rfl h dM_insert_17 (fun x17 h => ?_)
      refine wm_iload_n E dM_insert_18 rfl (j := 1) rfl ?_
      refine wm_iload_n E dM_insert_19 rfl (j := 2) rfl ?_
      obtain ⟨u20, hr20, h⟩ := b1S h
      obtain ⟨x20, m20, hc20, h⟩ := b2S h
      refine wm_cV (ci := 12) (As := [vI x17, vI v1, vI v2]) (st := []) E lk_M_287 rfl im_M_compareKeys sl_M_compareKeys hr20 (C_M_compareKeys (xl X) X.1 v0 x17 v1 v2 μ _ _ hc20) rfl rfl (by rw [hR]; decide) (by rw [hR]; decide) (by decide) dM_insert_20 ?_
      refine wm_if_le (tgt := 46) E dM_insert_23 (by decide) (fun c23 => ?_) (fun c23 => ?_)
      · have h := (if_pos c23).symm.trans h
        refine wm_pick (lv' := [(0, vR v0), (1, vI v1), (3, vI v3)]) [0, 1, 3] rfl ?_
        exact w_M_insert_46 E hQ hR hI v0 v1 v3 m20 h
      · have h := (if_neg c23).symm.trans h
        refine wm_aload_n E dM_insert_26 rfl (j := 0) rfl ?_
        refine wm_gR E fd_M_107 h dM_insert_27 (fun x27 h => ?_)
        refine wm_iload_n E dM_insert_30 rfl (j := 3) rfl ?_
        refine wm_aload_n E dM_insert_31 rfl (j := 0) rfl ?_
        refine wm_gR E fd_M_107 h dM_insert_32 (fun x32 h => ?_)
        refine wm_iload_n E dM_insert_35 rfl (j := 3) rfl ?_
        refine wm_iconst (x := 1) E dM_insert_36 (by decide) ?_
        refine wm_isub E dM_insert_37 ?_
        refine wm_iald (t := 0) E rfl h dM_insert_38 (fun x38 h => ?_)
        refine wm_iast (t := 0) E rfl h dM_insert_39 (fun m39 h => ?_)
        refine wm_iinc (lv' := [(3, vI (v3 + (-1))), (0, vR v0), (1, vI v1), (2, vI v2)]) (d := (-1)) E dM_insert_40 (by decide) (j := 3) rfl (by decide) rfl ?_
        refine wm_goto (tgt := 5) E dM_insert_43 (by decide) ?_
        refine wm_pick (lv' := [(0, vR v0), (1, vI v1), (2, vI v2), (3, vI (v3 + (-1)))]) [1, 2, 3, 0] rfl ?_
        exact ih v0 v1 v2 (v3 + (-1)) m39 h
def S_M_insert (v0 : Option Nat) (v1 : Int32) (v2 : Int32) (μ : Mem) : Option (Unit × Mem) := b1 (gI μ v0 12 36) (fun x1 => B_M_insert_5 fu v0 v1 v2 x1 μ)
set_option maxHeartbeats 4000000 in
set_option maxRecDepth 100000 in
theorem C_M_insert (l : Launch) (G : GG) (v0 : Option Nat) (v1 : Int32) (v2 : Int32) (μ μ' : Mem) (r : Unit) (h : S_M_insert v0 v1 v2 μ = some (r, μ')) : CT l G y_M_insert prog_13_method_51_code 4 none 2 0 0 65 μ [vR v0, vI v1, vI v2] none μ' := by
  refine wm_met (lv := [(0, vR v0), (1, vI v1), (2, vI v2)]) (by decide +kernel) (Nat.le_of_ble_eq_true rfl) rfl (fun X E hQ hR hI => ?_)
  have h : b1 (gI μ v0 12 36) (fun x1 => B_M_insert_5 fu v0 v1 v2 x1 μ) = some (r, μ') := h
  refine wm_aload_n E dM_insert_0 rfl (j := 0) rfl ?_
  refine wm_gI E fd_M_284 h dM_insert_1 (fun x1 h => ?_)
  refine wm_istore_n (lv' := [(3, vI x1), (0, vR v0), (1, vI v1), (2, vI v2)]) E dM_insert_4 rfl (by decide) rfl ?_
  refine wm_pick (lv' := [(0, vR v0), (1, vI v1), (2, vI v2), (3, vI x1)]) [1, 2, 3, 0] rfl ?_
  exact w_M_insert_5 E hQ hR hI fu v0 v1 v2 x1 μ h
def B_M_find_75 (k41 : Option Nat → Int32 → Int32 → Int32 → Mem → Option (Int32 × Mem)) (v0 : Option Nat) (v1 : Int32) (v2 : Int32) (v3 : Int32) (μ : Mem) : Option (Int32 × Mem) := k41 v0 v1 v2 (v3 + 1) μ
set_option maxHeartbeats 4000000 in
set_option maxRecDepth 100000 in
theorem w_M_find_75 {X : CX} (E : EV X prog_13_method_52_code 4 "PlaceFinderModel" (some .int)) {μ0 μ' : Mem} {r : Int32} (hQ : RQ X 0 0 μ0 (some (vI r)) μ') (hR : xR X = { frames := 5, cells := 0, slots := 0, locals := 141 }) (hI : X.2.2.2.2.2.2.2.2.2.2.2.1.name = "find") (k41 : Option Nat → Int32 → Int32 → Int32 → Mem → Option (Int32 × Mem)) (hk41 : ∀ (v0 : Option Nat) (v1 : Int32) (v2 : Int32) (v3 : Int32) (μ : Mem), k41 v0 v1 v2 v3 μ = some (r, μ') → WM X 4 41 [(0, vR v0), (1, vI v1), (2, vI v2), (3, vI v3)] [] 0 0 μ) (v0 : Option Nat) (v1 : Int32) (v2 : Int32) (v3 : Int32) (μ : Mem) (h : B_M_find_75 k41 v0 v1 v2 v3 μ = some (r, μ')) : WM X 4 75 [(0, vR v0), (1, vI v1), (2, vI v2), (3, vI v3)] [] 0 0 μ := by
  have h : k41 v0 v1 v2 (v3 + 1) μ = some (r, μ') := h
  refine wm_iinc (lv' := [(3, vI (v3 + 1)), (0, vR v0), (1, vI v1), (2, vI v2)]) (d := 1) E dM_find_75 (by decide) (j := 3) rfl (by decide) rfl ?_
  refine wm_goto (tgt := 41) E dM_find_78 (by decide) ?_
  refine wm_pick (lv' := [(0, vR v0), (1, vI v1), (2, vI v2), (3, vI (v3 + 1))]) [1, 2, 3, 0] rfl ?_
  exact hk41 v0 v1 v2 (v3 + 1) μ h
def B_M_find_41  : Nat → Option Nat → Int32 → Int32 → Int32 → Mem → Option (Int32 × Mem)
  | 0, _, _, _, _, _ => none
  | n + 1, v0, v1, v2, v3, μ => b1 (gI μ v0 12 1) (fun x43 => if x43 ≤ v3 then b1 (gI μ v0 12 36) (fun x82 => some (x82, μ)) else b1 (rc μ v0 12) (fun _ => b2 (S_M_meets v0 v3 v1 0 μ) (fun x53 m53 => if x53 = 0 then B_M_find_75 (fun v0 v1 v2 v3 μ => B_M_find_41 n v0 v1 v2 v3 μ) v0 v1 v2 v3 m53 else b1 (rc m53 v0 12) (fun _ => b2 (S_M_makeKeys v0 v3 v1 v2 m53) (fun x66 m66 => b1 (rc m66 v0 12) (fun _ => b2 (S_M_insert v0 v3 v2 m66) (fun x72 m72 => B_M_find_75 (fun v0 v1 v2 v3 μ => B_M_find_41 n v0 v1 v2 v3 μ) v0 v1 v2 v3 m72)))))))
set_option maxHeartbeats 4000000 in
set_option maxRecDepth 100000 in
theorem w_M_find_41 {X : CX} (E : EV X prog_13_method_52_code 4 "PlaceFinderModel" (some .int)) {μ0 μ' : Mem} {r : Int32} (hQ : RQ X 0 0 μ0 (some (vI r)) μ') (hR : xR X = { frames := 5, cells := 0, slots := 0, locals := 141 }) (hI : X.2.2.2.2.2.2.2.2.2.2.2.1.name = "find")  (n : Nat) : ∀ (v0 : Option Nat) (v1 : Int32) (v2 : Int32) (v3 : Int32) (μ : Mem) (h : B_M_find_41  n v0 v1 v2 v3 μ = some (r, μ')), WM X 4 41 [(0, vR v0), (1, vI v1), (2, vI v2), (3, vI v3)] [] 0 0 μ := by
  induction n with
  | zero => intro v0 v1 v2 v3 μ h; cases h
  | succ n ih =>
    intro v0 v1 v2 v3 μ h
    have h : b1 (gI μ v0 12 1) (fun x43 => if x43 ≤ v3 then b1 (gI μ v0 12 36) (fun x82 => some (x82, μ)) else b1 (rc μ v0 12) (fun _ => b2 (S_M_meets v0 v3 v1 0 μ) (fun x53 m53 => if x53 = 0 then B_M_find_75 (fun v0 v1 v2 v3 μ => B_M_find_41 n v0 v1 v2 v3 μ) v0 v1 v2 v3 m53 else b1 (rc m53 v0 12) (fun _ => b2 (S_M_makeKeys v0 v3 v1 v2 m53) (fun x66 m66 => b1 (rc m66 v0 12) (fun _ => b2 (S_M_insert v0 v3 v2 m66) (fun x72 m72 => B_M_find_75 (fun v0 v1 v2 v3 μ => B_M_find_41 n v0 v1 v2 v3 μ) v0 v1 v2 v3 m72))))))) = some (r, μ') := h
    refine wm_iload_n E dM_find_41 rfl (j := 3) rfl ?_
    refine wm_aload_n E dM_find_42 rfl (j := 0) rfl ?_
    refine wm_gI E fd_M_136 h dM_find_43 (fun x43 h => ?_)
    refine wm_icmp_ge (tgt := 81) E dM_find_46 (by decide) (fun c46 => ?_) (fun c46 => ?_)
    · have h := (if_pos c46).symm.trans h
      refine wm_aload_n E dM_find_81 rfl (j := 0) rfl ?_
      refine wm_gI E fd_M_284 h dM_find_82 (fun x82 h => ?_)
      exact wm_iret (rt := .int) E hQ (rtI h) (rtM h) (by decide) (by decide) dM_find_85
    · have h := (if_neg c46).symm.trans h
      refine wm_aload_n E dM_find_49 rfl (j := 0) rfl ?_
      refine wm_iload_n E dM_find_50 rfl (j := 3) rfl ?_
      refine wm_iload_n E dM_find_51 rfl (j := 1) rfl ?_
      refine wm_iconst (x := 0) E dM_find_52 (by decide) ?_
      obtain ⟨u53, hr53, h⟩ := b1S h
      obtain ⟨x53, m53, hc53, h⟩ := b2S h
      refine wm_cV (ci := 12) (As := [vI v3, vI v1, vI 0]) (st := []) E lk_M_291 rfl im_M_meets sl_M_meets hr53 (C_M_meets (xl X) X.1 v0 v3 v1 0 μ _ _ hc53) rfl rfl (by rw [hR]; decide) (by rw [hR]; decide) (by decide) dM_find_53 ?_
      refine wm_if_ne (tgt := 62) E dM_find_56 (by decide) (fun c56 => ?_) (fun c56 => ?_)
      · have h := (if_neg c56).symm.trans h
        refine wm_aload_n E dM_find_62 rfl (j := 0) rfl ?_
        refine wm_iload_n E dM_find_63 rfl (j := 3) rfl ?_
        refine wm_iload_n E dM_find_64 rfl (j := 1) rfl ?_
        refine wm_iload_n E dM_find_65 rfl (j := 2) rfl ?_
        obtain ⟨u66, hr66, h⟩ := b1S h
        obtain ⟨x66, m66, hc66, h⟩ := b2S h
        refine wm_cV (ci := 12) (As := [vI v3, vI v1, vI v2]) (st := []) E lk_M_294 rfl im_M_makeKeys sl_M_makeKeys hr66 (C_M_makeKeys (xl X) X.1 v0 v3 v1 v2 m53 _ _ hc66) rfl rfl (by rw [hR]; decide) (by rw [hR]; decide) (by decide) dM_find_66 ?_
        refine wm_aload_n E dM_find_69 rfl (j := 0) rfl ?_
        refine wm_iload_n E dM_find_70 rfl (j := 3) rfl ?_
        refine wm_iload_n E dM_find_71 rfl (j := 2) rfl ?_
        obtain ⟨u72, hr72, h⟩ := b1S h
        obtain ⟨x72, m72, hc72, h⟩ := b2S h
        refine wm_cV (ci := 12) (As := [vI v3, vI v2]) (st := []) E lk_M_297 rfl im_M_insert sl_M_insert hr72 (C_M_insert (xl X) X.1 v0 v3 v2 m66 _ _ hc72) rfl rfl (by rw [hR]; decide) (by rw [hR]; decide) (by decide) dM_find_72 ?_
        refine wm_pick (lv' := [(0, vR v0), (1, vI v1), (2, vI v2), (3, vI v3)]) [0, 1, 2, 3] rfl ?_
        exact w_M_find_75 E hQ hR hI (fun v0 v1 v2 v3 μ => B_M_find_41 n v0 v1 v2 v3 μ) ih v0 v1 v2 v3 m72 h
      · have h := (if_pos c56).symm.trans h
        refine wm_goto (tgt := 75) E dM_find_59 (by decide) ?_
        refine wm_pick (lv' := [(0, vR v0), (1, vI v1), (2, vI v2), (3, vI v3)]) [0, 1, 2, 3] rfl ?_
        exact w_M_find_75 E hQ hR hI (fun v0 v1 v2 v3 μ => B_M_find_41 n v0 v1 v2 v3 μ) ih v0 v1 v2 v3 m53 h
def B_M_find_22  (v0 : Option Nat) (v1 : Int32) (v2 : Int32) (s0 : Option Nat) (s1 : Int32) (μ : Mem) : Option (Int32 × Mem) := b1 (pV μ s0 12 0 (vI s1)) (fun m22 => b1 (gI m22 v0 12 0) (fun x26 => if x26 ≤ 0 then b1 (pV m22 v0 12 36 (vI 0)) (fun m36 => B_M_find_41 fu v0 v1 v2 0 m36) else some (0, m22)))
set_option maxHeartbeats 4000000 in
set_option maxRecDepth 100000 in
theorem w_M_find_22 {X : CX} (E : EV X prog_13_method_52_code 4 "PlaceFinderModel" (some .int)) {μ0 μ' : Mem} {r : Int32} (hQ : RQ X 0 0 μ0 (some (vI r)) μ') (hR : xR X = { frames := 5, cells := 0, slots := 0, locals := 141 }) (hI : X.2.2.2.2.2.2.2.2.2.2.2.1.name = "find")  (v0 : Option Nat) (v1 : Int32) (v2 : Int32) (s0 : Option Nat) (s1 : Int32) (μ : Mem) (h : B_M_find_22  v0 v1 v2 s0 s1 μ = some (r, μ')) : WM X 4 22 [(0, vR v0), (1, vI v1), (2, vI v2)] [vI s1, vR s0] 0 0 μ := by
  have h : b1 (pV μ s0 12 0 (vI s1)) (fun m22 => b1 (gI m22 v0 12 0) (fun x26 => if x26 ≤ 0 then b1 (pV m22 v0 12 36 (vI 0)) (fun m36 => B_M_find_41 fu v0 v1 v2 0 m36) else some (0, m22))) = some (r, μ') := h
  refine wm_pI E fp_M_132 (fun q => by cases q) h dM_find_22 (fun m22 h => ?_)
  refine wm_aload_n E dM_find_25 rfl (j := 0) rfl ?_
  refine wm_gI E fd_M_132 h dM_find_26 (fun x26 h => ?_)
  refine wm_if_le (tgt := 34) E dM_find_29 (by decide) (fun c29 => ?_) (fun c29 => ?_)
  · have h := (if_pos c29).symm.trans h
    refine wm_aload_n E dM_find_34 rfl (j := 0) rfl ?_
    refine wm_iconst (x := 0) E dM_find_35 (by decide) ?_
    refine wm_pI E fp_M_284 (fun q => by cases q) h dM_find_36 (fun m36 h => ?_)
    refine wm_iconst (x := 0) E dM_find_39 (by decide) ?_
    refine wm_istore_n (lv' := [(3, vI 0), (0, vR v0), (1, vI v1), (2, vI v2)]) E dM_find_40 rfl (by decide) rfl ?_
    refine wm_pick (lv' := [(0, vR v0), (1, vI v1), (2, vI v2), (3, vI 0)]) [1, 2, 3, 0] rfl ?_
    exact w_M_find_41 E hQ hR hI fu v0 v1 v2 0 m36 h
  · have h := (if_neg c29).symm.trans h
    refine wm_iconst (x := 0) E dM_find_32 (by decide) ?_
    exact wm_iret (rt := .int) E hQ (rtI h) (rtM h) (by decide) (by decide) dM_find_33
def B_M_find_17  (v0 : Option Nat) (v1 : Int32) (v2 : Int32) (s0 : Option Nat) (μ : Mem) : Option (Int32 × Mem) := B_M_find_22 v0 v1 v2 s0 1 μ
set_option maxHeartbeats 4000000 in
set_option maxRecDepth 100000 in
theorem w_M_find_17 {X : CX} (E : EV X prog_13_method_52_code 4 "PlaceFinderModel" (some .int)) {μ0 μ' : Mem} {r : Int32} (hQ : RQ X 0 0 μ0 (some (vI r)) μ') (hR : xR X = { frames := 5, cells := 0, slots := 0, locals := 141 }) (hI : X.2.2.2.2.2.2.2.2.2.2.2.1.name = "find")  (v0 : Option Nat) (v1 : Int32) (v2 : Int32) (s0 : Option Nat) (μ : Mem) (h : B_M_find_17  v0 v1 v2 s0 μ = some (r, μ')) : WM X 4 17 [(0, vR v0), (1, vI v1), (2, vI v2)] [vR s0] 0 0 μ := by
  have h : B_M_find_22 v0 v1 v2 s0 1 μ = some (r, μ') := h
  refine wm_iconst (x := 1) E dM_find_17 (by decide) ?_
  refine wm_goto (tgt := 22) E dM_find_18 (by decide) ?_
  refine wm_pick (lv' := [(0, vR v0), (1, vI v1), (2, vI v2)]) [0, 1, 2] rfl ?_
  exact w_M_find_22 E hQ hR hI v0 v1 v2 s0 1 μ h
def S_M_find (v0 : Option Nat) (v1 : Int32) (v2 : Int32) (μ : Mem) : Option (Int32 × Mem) := b2 (S_M_isDay v1 μ) (fun x2 m2 => if x2 = 0 then B_M_find_17 v0 v1 v2 v0 m2 else b2 (S_M_in v2 0 3 m2) (fun x11 m11 => if x11 = 0 then B_M_find_17 v0 v1 v2 v0 m11 else B_M_find_22 v0 v1 v2 v0 0 m11))
set_option maxHeartbeats 4000000 in
set_option maxRecDepth 100000 in
theorem C_M_find (l : Launch) (G : GG) (v0 : Option Nat) (v1 : Int32) (v2 : Int32) (μ μ' : Mem) (r : Int32) (h : S_M_find v0 v1 v2 μ = some (r, μ')) : CT l G y_M_find prog_13_method_52_code 4 (some .int) 5 0 0 141 μ [vR v0, vI v1, vI v2] (some (vI r)) μ' := by
  refine wm_met (lv := [(0, vR v0), (1, vI v1), (2, vI v2)]) (by decide +kernel) (Nat.le_of_ble_eq_true rfl) rfl (fun X E hQ hR hI => ?_)
  have h : b2 (S_M_isDay v1 μ) (fun x2 m2 => if x2 = 0 then B_M_find_17 v0 v1 v2 v0 m2 else b2 (S_M_in v2 0 3 m2) (fun x11 m11 => if x11 = 0 then B_M_find_17 v0 v1 v2 v0 m11 else B_M_find_22 v0 v1 v2 v0 0 m11)) = some (r, μ') := h
  refine wm_aload_n E dM_find_0 rfl (j := 0) rfl ?_
  refine wm_iload_n E dM_find_1 rfl (j := 1) rfl ?_
  obtain ⟨x2, m2, hc2, h⟩ := b2S h
  refine wm_cS (As := [vI v1]) (st := [vR v0]) E lk_M_143 sc_M_isDay (C_M_isDay (xl X) X.1 v1 μ _ _ hc2) rfl rfl (by rw [hR]; decide) (by rw [hR]; decide) (by decide) dM_find_2 ?_
  refine wm_if_eq (tgt := 17) E dM_find_5 (by decide) (fun c5 => ?_) (fun c5 => ?_)
  · have h := (if_pos c5).symm.trans h
    refine wm_pick (lv' := [(0, vR v0), (1, vI v1), (2, vI v2)]) [0, 1, 2] rfl ?_
    exact w_M_find_17 E hQ hR hI v0 v1 v2 v0 m2 h
  · have h := (if_neg c5).symm.trans h
    refine wm_iload_n E dM_find_8 rfl (j := 2) rfl ?_
    refine wm_iconst (x := 0) E dM_find_9 (by decide) ?_
    refine wm_iconst (x := 3) E dM_find_10 (by decide) ?_
    obtain ⟨x11, m11, hc11, h⟩ := b2S h
    refine wm_cS (As := [vI v2, vI 0, vI 3]) (st := [vR v0]) E lk_M_139 sc_M_in (C_M_in (xl X) X.1 v2 0 3 m2 _ _ hc11) rfl rfl (by rw [hR]; decide) (by rw [hR]; decide) (by decide) dM_find_11 ?_
    refine wm_if_ne (tgt := 21) E dM_find_14 (by decide) (fun c14 => ?_) (fun c14 => ?_)
    · have h := (if_neg c14).symm.trans h
      refine wm_iconst (x := 0) E dM_find_21 (by decide) ?_
      refine wm_pick (lv' := [(0, vR v0), (1, vI v1), (2, vI v2)]) [0, 1, 2] rfl ?_
      exact w_M_find_22 E hQ hR hI v0 v1 v2 v0 0 m11 h
    · have h := (if_pos c14).symm.trans h
      refine wm_pick (lv' := [(0, vR v0), (1, vI v1), (2, vI v2)]) [0, 1, 2] rfl ?_
      exact w_M_find_17 E hQ hR hI v0 v1 v2 v0 m11 h
