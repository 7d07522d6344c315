def B_M_condition_295  (v0 : Option Nat) (μ : Mem) : Option (Int32 × Mem) := b1 (gR μ v0 12 23) (fun x296 => b1 (aI μ x296 0 0) (fun x300 => some (x300, μ)))
set_option maxHeartbeats 4000000 in
set_option maxRecDepth 100000 in
theorem w_M_condition_295 {X : CX} (E : EV X prog_13_method_34_code 8 "PlaceFinderModel" (some .int)) {μ0 μ' : Mem} {r : Int32} (hQ : RQ X 0 0 μ0 (some (vI r)) μ') (hR : xR X = { frames := 3, cells := 0, slots := 0, locals := 67 }) (hI : X.2.2.2.2.2.2.2.2.2.2.2.1.name = "condition")  (v0 : Option Nat) (μ : Mem) (h : B_M_condition_295  v0 μ = some (r, μ')) : WM X 8 295 [(0, vR v0)] [] 0 0 μ := by
  have h : b1 (gR μ v0 12 23) (fun x296 => b1 (aI μ x296 0 0) (fun x300 => some (x300, μ))) = some (r, μ') := h
  refine wm_aload_n E dM_condition_295 rfl (j := 0) rfl ?_
  refine wm_gR E fd_M_67 h dM_condition_296 (fun x296 h => ?_)
  refine wm_iconst (x := 0) E dM_condition_299 (by decide) ?_
  refine wm_iald (t := 0) E rfl h dM_condition_300 (fun x300 h => ?_)
  exact wm_iret (rt := .int) E hQ (rtI h) (rtM h) (by decide) (by decide) dM_condition_301
def B_M_condition_255  : Nat → Option Nat → Int32 → Int32 → Mem → Option (Int32 × Mem)
  | 0, _, _, _, _ => none
  | n + 1, v0, v6, v7, μ => b1 (gI μ v0 12 38) (fun x258 => if x258 ≤ v7 then b1 (pV μ v0 12 21 (vI 0)) (fun m292 => B_M_condition_295 v0 m292) else b1 (gR μ v0 12 29) (fun x265 => b1 (gR μ v0 12 39) (fun x277 => b1 (aI μ x277 0 v7) (fun x282 => b1 (sI μ x265 0 ((10 * v6) + v7) x282) (fun m283 => (fun v0 v6 v7 μ => B_M_condition_255 n v0 v6 v7 μ) v0 v6 (v7 + 1) m283)))))
set_option maxHeartbeats 4000000 in
set_option maxRecDepth 100000 in
theorem w_M_condition_255 {X : CX} (E : EV X prog_13_method_34_code 8 "PlaceFinderModel" (some .int)) {μ0 μ' : Mem} {r : Int32} (hQ : RQ X 0 0 μ0 (some (vI r)) μ') (hR : xR X = { frames := 3, cells := 0, slots := 0, locals := 67 }) (hI : X.2.2.2.2.2.2.2.2.2.2.2.1.name = "condition")  (n : Nat) : ∀ (v0 : Option Nat) (v6 : Int32) (v7 : Int32) (μ : Mem) (h : B_M_condition_255  n v0 v6 v7 μ = some (r, μ')), WM X 8 255 [(0, vR v0), (6, vI v6), (7, vI v7)] [] 0 0 μ := by
  induction n with
  | zero => intro v0 v6 v7 μ h; cases h
  | succ n ih =>
    intro v0 v6 v7 μ h
    have h : b1 (gI μ v0 12 38) (fun x258 => if x258 ≤ v7 then b1 (pV μ v0 12 21 (vI 0)) (fun m292 => B_M_condition_295 v0 m292) else b1 (gR μ v0 12 29) (fun x265 => b1 (gR μ v0 12 39) (fun x277 => b1 (aI μ x277 0 v7) (fun x282 => b1 (sI μ x265 0 ((10 * v6) + v7) x282) (fun m283 => (fun v0 v6 v7 μ => B_M_condition_255 n v0 v6 v7 μ) v0 v6 (v7 + 1) m283))))) = some (r, μ') := h
    refine wm_iload E dM_condition_255 (j := 2) rfl ?_
    refine wm_aload_n E dM_condition_257 rfl (j := 0) rfl ?_
    refine wm_gI E fd_M_179 h dM_condition_258 (fun x258 h => ?_)
    refine wm_icmp_ge (tgt := 290) E dM_condition_261 (by decide) (fun c261 => ?_) (fun c261 => ?_)
    · have h := (if_pos c261).symm.trans h
      refine wm_aload_n E dM_condition_290 rfl (j := 0) rfl ?_
      refine wm_iconst (x := 0) E dM_condition_291 (by decide) ?_
      refine wm_pI E fp_M_172 (fun q => by cases q) h dM_condition_292 (fun m292 h => ?_)
      refine wm_pick (lv' := [(0, vR v0)]) [0] rfl ?_
      exact w_M_condition_295 E hQ hR hI v0 m292 h
    · have h := (if_neg c261).symm.trans h
      refine wm_aload_n E dM_condition_264 rfl (j := 0) rfl ?_
      refine wm_gR E fd_M_85 h dM_condition_265 (fun x265 h => ?_)
      refine wm_bipush (x := 10) E dM_condition_268 (by decide) ?_
      refine wm_iload E dM_condition_270 (j := 1) rfl ?_
      refine wm_imul E dM_condition_272 ?_
      refine wm_iload E dM_condition_273 (j := 2) rfl ?_
      refine wm_iadd E dM_condition_275 ?_
      refine wm_aload_n E dM_condition_276 rfl (j := 0) rfl ?_
      refine wm_gR E fd_M_110 h dM_condition_277 (fun x277 h => ?_)
      refine wm_iload E dM_condition_280 (j := 2) rfl ?_
      refine wm_iald (t := 0) E rfl h dM_condition_282 (fun x282 h => ?_)
      refine wm_iast (t := 0) E rfl h dM_condition_283 (fun m283 h => ?_)
      refine wm_iinc (lv' := [(7, vI (v7 + 1)), (0, vR v0), (6, vI v6)]) (d := 1) E dM_condition_284 (by decide) (j := 2) rfl (by decide) rfl ?_
      refine wm_goto (tgt := 255) E dM_condition_287 (by decide) ?_
      refine wm_pick (lv' := [(0, vR v0), (6, vI v6), (7, vI (v7 + 1))]) [1, 2, 0] rfl ?_
      exact ih v0 v6 (v7 + 1) m283 h
def B_M_condition_161  (v0 : Option Nat) (v1 : Int32) (v2 : Int32) (v3 : Int32) (v4 : Int32) (s0 : Option Nat) (s1 : Int32) (μ : Mem) : Option (Int32 × Mem) := b1 (pV μ s0 12 0 (vI s1)) (fun m161 => b1 (gI m161 v0 12 0) (fun x165 => if x165 ≤ 0 then b1 (gR m161 v0 12 23) (fun x174 => b1 (aI m161 x174 0 0) (fun x178 => b1 (gR m161 v0 12 23) (fun x182 => b1 (aI m161 x182 0 0) (fun x187 => b1 (sI m161 x182 0 0 (x187 + 1)) (fun m190 => b1 (gR m190 v0 12 24) (fun x192 => b1 (sI m190 x192 0 x178 v1) (fun m198 => b1 (gR m198 v0 12 25) (fun x200 => b1 (sI m198 x200 0 x178 v2) (fun m206 => b1 (gR m206 v0 12 26) (fun x208 => b1 (sI m206 x208 0 x178 v3) (fun m214 => b1 (gR m214 v0 12 27) (fun x216 => b1 (sI m214 x216 0 x178 v4) (fun m223 => b1 (gR m223 v0 12 28) (fun x225 => b1 (sI m223 x225 0 x178 0) (fun m231 => if 4 ≤ v1 then B_M_condition_295 v0 m231 else b1 (rc m231 v0 12) (fun _ => b2 (S_M_foldTyped v0 m231) (fun x238 m238 => b1 (gR m238 v0 12 28) (fun x242 => b1 (gI m238 v0 12 38) (fun x248 => b1 (sI m238 x242 0 x178 x248) (fun m251 => B_M_condition_255 fu v0 x178 0 m251)))))))))))))))))))) else some (0, m161)))
set_option maxHeartbeats 4000000 in
set_option maxRecDepth 100000 in
theorem w_M_condition_161 {X : CX} (E : EV X prog_13_method_34_code 8 "PlaceFinderModel" (some .int)) {μ0 μ' : Mem} {r : Int32} (hQ : RQ X 0 0 μ0 (some (vI r)) μ') (hR : xR X = { frames := 3, cells := 0, slots := 0, locals := 67 }) (hI : X.2.2.2.2.2.2.2.2.2.2.2.1.name = "condition")  (v0 : Option Nat) (v1 : Int32) (v2 : Int32) (v3 : Int32) (v4 : Int32) (s0 : Option Nat) (s1 : Int32) (μ : Mem) (h : B_M_condition_161  v0 v1 v2 v3 v4 s0 s1 μ = some (r, μ')) : WM X 8 161 [(0, vR v0), (1, vI v1), (2, vI v2), (3, vI v3), (4, vI v4)] [vI s1, vR s0] 0 0 μ := by
  have h : b1 (pV μ s0 12 0 (vI s1)) (fun m161 => b1 (gI m161 v0 12 0) (fun x165 => if x165 ≤ 0 then b1 (gR m161 v0 12 23) (fun x174 => b1 (aI m161 x174 0 0) (fun x178 => b1 (gR m161 v0 12 23) (fun x182 => b1 (aI m161 x182 0 0) (fun x187 => b1 (sI m161 x182 0 0 (x187 + 1)) (fun m190 => b1 (gR m190 v0 12 24) (fun x192 => b1 (sI m190 x192 0 x178 v1) (fun m198 => b1 (gR m198 v0 12 25) (fun x200 => b1 (sI m198 x200 0 x178 v2) (fun m206 => b1 (gR m206 v0 12 26) (fun x208 => b1 (sI m206 x208 0 x178 v3) (fun m214 => b1 (gR m214 v0 12 27) (fun x216 => b1 (sI m214 x216 0 x178 v4) (fun m223 => b1 (gR m223 v0 12 28) (fun x225 => b1 (sI m223 x225 0 x178 0) (fun m231 => if 4 ≤ v1 then B_M_condition_295 v0 m231 else b1 (rc m231 v0 12) (fun _ => b2 (S_M_foldTyped v0 m231) (fun x238 m238 => b1 (gR m238 v0 12 28) (fun x242 => b1 (gI m238 v0 12 38) (fun x248 => b1 (sI m238 x242 0 x178 x248) (fun m251 => B_M_condition_255 fu v0 x178 0 m251)))))))))))))))))))) else some (0, m161))) = some (r, μ') := h
  refine wm_pI E fp_M_132 (fun q => by cases q) h dM_condition_161 (fun m161 h => ?_)
  refine wm_aload_n E dM_condition_164 rfl (j := 0) rfl ?_
  refine wm_gI E fd_M_132 h dM_condition_165 (fun x165 h => ?_)
  refine wm_if_le (tgt := 173) E dM_condition_168 (by decide) (fun c168 => ?_) (fun c168 => ?_)
  · have h := (if_pos c168).symm.trans h
    refine wm_aload_n E dM_condition_173 rfl (j := 0) rfl ?_
    refine wm_gR E fd_M_67 h dM_condition_174 (fun x174 h => ?_)
    refine wm_iconst (x := 0) E dM_condition_177 (by decide) ?_
    refine wm_iald (t := 0) E rfl h dM_condition_178 (fun x178 h => ?_)
    refine wm_istore (lv' := [(6, vI x178), (0, vR v0), (1, vI v1), (2, vI v2), (3, vI v3), (4, vI v4)]) E dM_condition_179 (by decide) rfl ?_
    refine wm_aload_n E dM_condition_181 rfl (j := 1) rfl ?_
    refine wm_gR E fd_M_67 h dM_condition_182 (fun x182 h => ?_)
    refine wm_iconst (x := 0) E dM_condition_185 (by decide) ?_
    refine wm_dup2_11 E dM_condition_186 rfl rfl ?_
    refine wm_iald (t := 0) E rfl h dM_condition_187 (fun x187 h => ?_)
    refine wm_iconst (x := 1) E dM_condition_188 (by decide) ?_
    refine wm_iadd E dM_condition_189 ?_
    refine wm_iast (t := 0) E rfl h dM_condition_190 (fun m190 h => ?_)
    refine wm_aload_n E dM_condition_191 rfl (j := 1) rfl ?_
    refine wm_gR E fd_M_70 h dM_condition_192 (fun x192 h => ?_)
    refine wm_iload E dM_condition_195 (j := 0) rfl ?_
    refine wm_iload_n E dM_condition_197 rfl (j := 2) rfl ?_
    refine wm_iast (t := 0) E rfl h dM_condition_198 (fun m198 h => ?_)
    refine wm_aload_n E dM_condition_199 rfl (j := 1) rfl ?_
    refine wm_gR E fd_M_73 h dM_condition_200 (fun x200 h => ?_)
    refine wm_iload E dM_condition_203 (j := 0) rfl ?_
    refine wm_iload_n E dM_condition_205 rfl (j := 3) rfl ?_
    refine wm_iast (t := 0) E rfl h dM_condition_206 (fun m206 h => ?_)
    refine wm_aload_n E dM_condition_207 rfl (j := 1) rfl ?_
    refine wm_gR E fd_M_76 h dM_condition_208 (fun x208 h => ?_)
    refine wm_iload E dM_condition_211 (j := 0) rfl ?_
    refine wm_iload_n E dM_condition_213 rfl (j := 4) rfl ?_
    refine wm_iast (t := 0) E rfl h dM_condition_214 (fun m214 h => ?_)
    refine wm_aload_n E dM_condition_215 rfl (j := 1) rfl ?_
    refine wm_gR E fd_M_79 h dM_condition_216 (fun x216 h => ?_)
    refine wm_iload E dM_condition_219 (j := 0) rfl ?_
    refine wm_iload E dM_condition_221 (j := 5) rfl ?_
    refine wm_iast (t := 0) E rfl h dM_condition_223 (fun m223 h => ?_)
    refine wm_aload_n E dM_condition_224 rfl (j := 1) rfl ?_
    refine wm_gR E fd_M_82 h dM_condition_225 (fun x225 h => ?_)
    refine wm_iload E dM_condition_228 (j := 0) rfl ?_
    refine wm_iconst (x := 0) E dM_condition_230 (by decide) ?_
    refine wm_iast (t := 0) E rfl h dM_condition_231 (fun m231 h => ?_)
    refine wm_iload_n E dM_condition_232 rfl (j := 2) rfl ?_
    refine wm_iconst (x := 4) E dM_condition_233 (by decide) ?_
    refine wm_icmp_ge (tgt := 295) E dM_condition_234 (by decide) (fun c234 => ?_) (fun c234 => ?_)
    · have h := (if_pos c234).symm.trans h
      refine wm_pick (lv' := [(0, vR v0)]) [1] rfl ?_
      exact w_M_condition_295 E hQ hR hI v0 m231 h
    · have h := (if_neg c234).symm.trans h
      refine wm_aload_n E dM_condition_237 rfl (j := 1) rfl ?_
      obtain ⟨u238, hr238, h⟩ := b1S h
      obtain ⟨x238, m238, hc238, h⟩ := b2S h
      refine wm_cV (ci := 12) (As := []) (st := []) E lk_M_188 rfl im_M_foldTyped sl_M_foldTyped hr238 (C_M_foldTyped (xl X) X.1 v0 m231 _ _ hc238) rfl rfl (by rw [hR]; decide) (by rw [hR]; decide) (by decide) dM_condition_238 ?_
      refine wm_aload_n E dM_condition_241 rfl (j := 1) rfl ?_
      refine wm_gR E fd_M_82 h dM_condition_242 (fun x242 h => ?_)
      refine wm_iload E dM_condition_245 (j := 0) rfl ?_
      refine wm_aload_n E dM_condition_247 rfl (j := 1) rfl ?_
      refine wm_gI E fd_M_179 h dM_condition_248 (fun x248 h => ?_)
      refine wm_iast (t := 0) E rfl h dM_condition_251 (fun m251 h => ?_)
      refine wm_iconst (x := 0) E dM_condition_252 (by decide) ?_
      refine wm_istore (lv' := [(7, vI 0), (6, vI x178), (0, vR v0), (1, vI v1), (2, vI v2), (3, vI v3), (4, vI v4)]) E dM_condition_253 (by decide) rfl ?_
      refine wm_pick (lv' := [(0, vR v0), (6, vI x178), (7, vI 0)]) [2, 1, 0] rfl ?_
      exact w_M_condition_255 E hQ hR hI fu v0 x178 0 m251 h
  · have h := (if_neg c168).symm.trans h
    refine wm_iconst (x := 0) E dM_condition_171 (by decide) ?_
    exact wm_iret (rt := .int) E hQ (rtI h) (rtM h) (by decide) (by decide) dM_condition_172
def B_M_condition_136  (v0 : Option Nat) (v1 : Int32) (v2 : Int32) (v3 : Int32) (v4 : Int32) (v5 : Int32) (μ : Mem) : Option (Int32 × Mem) := if v5 = 0 then B_M_condition_161 v0 v1 v2 v3 v4 v0 1 μ else b1 (gR μ v0 12 23) (fun x147 => b1 (aI μ x147 0 0) (fun x151 => if x151 = 5 then B_M_condition_161 v0 v1 v2 v3 v4 v0 2 μ else B_M_condition_161 v0 v1 v2 v3 v4 v0 0 μ))
set_option maxHeartbeats 4000000 in
set_option maxRecDepth 100000 in
theorem w_M_condition_136 {X : CX} (E : EV X prog_13_method_34_code 8 "PlaceFinderModel" (some .int)) {μ0 μ' : Mem} {r : Int32} (hQ : RQ X 0 0 μ0 (some (vI r)) μ') (hR : xR X = { frames := 3, cells := 0, slots := 0, locals := 67 }) (hI : X.2.2.2.2.2.2.2.2.2.2.2.1.name = "condition")  (v0 : Option Nat) (v1 : Int32) (v2 : Int32) (v3 : Int32) (v4 : Int32) (v5 : Int32) (μ : Mem) (h : B_M_condition_136  v0 v1 v2 v3 v4 v5 μ = some (r, μ')) : WM X 8 136 [(0, vR v0), (1, vI v1), (2, vI v2), (3, vI v3), (4, vI v4), (5, vI v5)] [] 0 0 μ := by
  have h : if v5 = 0 then B_M_condition_161 v0 v1 v2 v3 v4 v0 1 μ else b1 (gR μ v0 12 23) (fun x147 => b1 (aI μ x147 0 0) (fun x151 => if x151 = 5 then B_M_condition_161 v0 v1 v2 v3 v4 v0 2 μ else B_M_condition_161 v0 v1 v2 v3 v4 v0 0 μ)) = some (r, μ') := h
  refine wm_aload_n E dM_condition_136 rfl (j := 0) rfl ?_
  refine wm_iload E dM_condition_137 (j := 5) rfl ?_
  refine wm_if_ne (tgt := 146) E dM_condition_139 (by decide) (fun c139 => ?_) (fun c139 => ?_)
  · have h := (if_neg c139).symm.trans h
    refine wm_aload_n E dM_condition_146 rfl (j := 0) rfl ?_
    refine wm_gR E fd_M_67 h dM_condition_147 (fun x147 h => ?_)
    refine wm_iconst (x := 0) E dM_condition_150 (by decide) ?_
    refine wm_iald (t := 0) E rfl h dM_condition_151 (fun x151 h => ?_)
    refine wm_iconst (x := 5) E dM_condition_152 (by decide) ?_
    refine wm_icmp_ne (tgt := 160) E dM_condition_153 (by decide) (fun c153 => ?_) (fun c153 => ?_)
    · have h := (if_neg c153).symm.trans h
      refine wm_iconst (x := 0) E dM_condition_160 (by decide) ?_
      refine wm_pick (lv' := [(0, vR v0), (1, vI v1), (2, vI v2), (3, vI v3), (4, vI v4)]) [0, 1, 2, 3, 4] rfl ?_
      exact w_M_condition_161 E hQ hR hI v0 v1 v2 v3 v4 v0 0 μ h
    · have h := (if_pos c153).symm.trans h
      refine wm_iconst (x := 2) E dM_condition_156 (by decide) ?_
      refine wm_goto (tgt := 161) E dM_condition_157 (by decide) ?_
      refine wm_pick (lv' := [(0, vR v0), (1, vI v1), (2, vI v2), (3, vI v3), (4, vI v4)]) [0, 1, 2, 3, 4] rfl ?_
      exact w_M_condition_161 E hQ hR hI v0 v1 v2 v3 v4 v0 2 μ h
  · have h := (if_pos c139).symm.trans h
    refine wm_iconst (x := 1) E dM_condition_142 (by decide) ?_
    refine wm_goto (tgt := 161) E dM_condition_143 (by decide) ?_
    refine wm_pick (lv' := [(0, vR v0), (1, vI v1), (2, vI v2), (3, vI v3), (4, vI v4)]) [0, 1, 2, 3, 4] rfl ?_
    exact w_M_condition_161 E hQ hR hI v0 v1 v2 v3 v4 v0 1 μ h
def B_M_condition_120  (v0 : Option Nat) (v1 : Int32) (v2 : Int32) (v3 : Int32) (v4 : Int32) (v5 : Int32) (μ : Mem) : Option (Int32 × Mem) := if v1 = 8 then b2 (S_M_in v2 0 10000 μ) (fun x131 m131 => B_M_condition_136 v0 v1 v2 v3 v4 x131 m131) else B_M_condition_136 v0 v1 v2 v3 v4 v5 μ
set_option maxHeartbeats 4000000 in
set_option maxRecDepth 100000 in
theorem w_M_condition_120 {X : CX} (E : EV X prog_13_method_34_code 8 "PlaceFinderModel" (some .int)) {μ0 μ' : Mem} {r : Int32} (hQ : RQ X 0 0 μ0 (some (vI r)) μ') (hR : xR X = { frames := 3, cells := 0, slots := 0, locals := 67 }) (hI : X.2.2.2.2.2.2.2.2.2.2.2.1.name = "condition")  (v0 : Option Nat) (v1 : Int32) (v2 : Int32) (v3 : Int32) (v4 : Int32) (v5 : Int32) (μ : Mem) (h : B_M_condition_120  v0 v1 v2 v3 v4 v5 μ = some (r, μ')) : WM X 8 120 [(0, vR v0), (1, vI v1), (2, vI v2), (3, vI v3), (4, vI v4), (5, vI v5)] [] 0 0 μ := by
  have h : if v1 = 8 then b2 (S_M_in v2 0 10000 μ) (fun x131 m131 => B_M_condition_136 v0 v1 v2 v3 v4 x131 m131) else B_M_condition_136 v0 v1 v2 v3 v4 v5 μ = some (r, μ') := h
  refine wm_iload_n E dM_condition_120 rfl (j := 1) rfl ?_
  refine wm_bipush (x := 8) E dM_condition_121 (by decide) ?_
  refine wm_icmp_ne (tgt := 136) E dM_condition_123 (by decide) (fun c123 => ?_) (fun c123 => ?_)
  · have h := (if_neg c123).symm.trans h
    refine wm_pick (lv' := [(0, vR v0), (1, vI v1), (2, vI v2), (3, vI v3), (4, vI v4), (5, vI v5)]) [0, 1, 2, 3, 4, 5] rfl ?_
    exact w_M_condition_136 E hQ hR hI v0 v1 v2 v3 v4 v5 μ h
  · have h := (if_pos c123).symm.trans h
    refine wm_iload_n E dM_condition_126 rfl (j := 2) rfl ?_
    refine wm_iconst (x := 0) E dM_condition_127 (by decide) ?_
    refine wm_sipush (x := 10000) E dM_condition_128 (by decide) ?_
    obtain ⟨x131, m131, hc131, h⟩ := b2S h
    refine wm_cS (As := [vI v2, vI 0, vI 10000]) (st := []) E lk_M_139 sc_M_in (C_M_in (xl X) X.1 v2 0 10000 μ _ _ hc131) rfl rfl (by rw [hR]; decide) (by rw [hR]; decide) (by decide) dM_condition_131 ?_
    refine wm_istore (lv' := [(5, vI x131), (0, vR v0), (1, vI v1), (2, vI v2), (3, vI v3), (4, vI v4)]) E dM_condition_134 (by decide) rfl ?_
    refine wm_pick (lv' := [(0, vR v0), (1, vI v1), (2, vI v2), (3, vI v3), (4, vI v4), (5, vI x131)]) [1, 2, 3, 4, 5, 0] rfl ?_
    exact w_M_condition_136 E hQ hR hI v0 v1 v2 v3 v4 x131 m131 h
def B_M_condition_118  (v0 : Option Nat) (v1 : Int32) (v2 : Int32) (v3 : Int32) (v4 : Int32) (s0 : Int32) (μ : Mem) : Option (Int32 × Mem) := B_M_condition_120 v0 v1 v2 v3 v4 s0 μ
set_option maxHeartbeats 4000000 in
set_option maxRecDepth 100000 in
theorem w_M_condition_118 {X : CX} (E : EV X prog_13_method_34_code 8 "PlaceFinderModel" (some .int)) {μ0 μ' : Mem} {r : Int32} (hQ : RQ X 0 0 μ0 (some (vI r)) μ') (hR : xR X = { frames := 3, cells := 0, slots := 0, locals := 67 }) (hI : X.2.2.2.2.2.2.2.2.2.2.2.1.name = "condition")  (v0 : Option Nat) (v1 : Int32) (v2 : Int32) (v3 : Int32) (v4 : Int32) (s0 : Int32) (μ : Mem) (h : B_M_condition_118  v0 v1 v2 v3 v4 s0 μ = some (r, μ')) : WM X 8 118 [(0, vR v0), (1, vI v1), (2, vI v2), (3, vI v3), (4, vI v4)] [vI s0] 0 0 μ := by
  have h : B_M_condition_120 v0 v1 v2 v3 v4 s0 μ = some (r, μ') := h
  refine wm_istore (lv' := [(5, vI s0), (0, vR v0), (1, vI v1), (2, vI v2), (3, vI v3), (4, vI v4)]) E dM_condition_118 (by decide) rfl ?_
  refine wm_pick (lv' := [(0, vR v0), (1, vI v1), (2, vI v2), (3, vI v3), (4, vI v4), (5, vI s0)]) [1, 2, 3, 4, 5, 0] rfl ?_
  exact w_M_condition_120 E hQ hR hI v0 v1 v2 v3 v4 s0 μ h
def B_M_condition_117  (v0 : Option Nat) (v1 : Int32) (v2 : Int32) (v3 : Int32) (v4 : Int32) (μ : Mem) : Option (Int32 × Mem) := B_M_condition_118 v0 v1 v2 v3 v4 0 μ
set_option maxHeartbeats 4000000 in
set_option maxRecDepth 100000 in
theorem w_M_condition_117 {X : CX} (E : EV X prog_13_method_34_code 8 "PlaceFinderModel" (some .int)) {μ0 μ' : Mem} {r : Int32} (hQ : RQ X 0 0 μ0 (some (vI r)) μ') (hR : xR X = { frames := 3, cells := 0, slots := 0, locals := 67 }) (hI : X.2.2.2.2.2.2.2.2.2.2.2.1.name = "condition")  (v0 : Option Nat) (v1 : Int32) (v2 : Int32) (v3 : Int32) (v4 : Int32) (μ : Mem) (h : B_M_condition_117  v0 v1 v2 v3 v4 μ = some (r, μ')) : WM X 8 117 [(0, vR v0), (1, vI v1), (2, vI v2), (3, vI v3), (4, vI v4)] [] 0 0 μ := by
  have h : B_M_condition_118 v0 v1 v2 v3 v4 0 μ = some (r, μ') := h
  refine wm_iconst (x := 0) E dM_condition_117 (by decide) ?_
  refine wm_pick (lv' := [(0, vR v0), (1, vI v1), (2, vI v2), (3, vI v3), (4, vI v4)]) [0, 1, 2, 3, 4] rfl ?_
  exact w_M_condition_118 E hQ hR hI v0 v1 v2 v3 v4 0 μ h
def B_M_condition_87  (v0 : Option Nat) (v1 : Int32) (v2 : Int32) (v3 : Int32) (v4 : Int32) (v5 : Int32) (μ : Mem) : Option (Int32 × Mem) := if v1 = 7 then b2 (S_M_isAt v2 v3 μ) (fun x95 m95 => if x95 = 0 then B_M_condition_117 v0 v1 v2 v3 v4 m95 else b2 (S_M_in v4 0 10000 m95) (fun x107 m107 => if x107 = 0 then B_M_condition_117 v0 v1 v2 v3 v4 m107 else B_M_condition_118 v0 v1 v2 v3 v4 1 m107)) else B_M_condition_120 v0 v1 v2 v3 v4 v5 μ
set_option maxHeartbeats 4000000 in
set_option maxRecDepth 100000 in
theorem w_M_condition_87 {X : CX} (E : EV X prog_13_method_34_code 8 "PlaceFinderModel" (some .int)) {μ0 μ' : Mem} {r : Int32} (hQ : RQ X 0 0 μ0 (some (vI r)) μ') (hR : xR X = { frames := 3, cells := 0, slots := 0, locals := 67 }) (hI : X.2.2.2.2.2.2.2.2.2.2.2.1.name = "condition")  (v0 : Option Nat) (v1 : Int32) (v2 : Int32) (v3 : Int32) (v4 : Int32) (v5 : Int32) (μ : Mem) (h : B_M_condition_87  v0 v1 v2 v3 v4 v5 μ = some (r, μ')) : WM X 8 87 [(0, vR v0), (1, vI v1), (2, vI v2), (3, vI v3), (4, vI v4), (5, vI v5)] [] 0 0 μ := by
  have h : if v1 = 7 then b2 (S_M_isAt v2 v3 μ) (fun x95 m95 => if x95 = 0 then B_M_condition_117 v0 v1 v2 v3 v4 m95 else b2 (S_M_in v4 0 10000 m95) (fun x107 m107 => if x107 = 0 then B_M_condition_117 v0 v1 v2 v3 v4 m107 else B_M_condition_118 v0 v1 v2 v3 v4 1 m107)) else B_M_condition_120 v0 v1 v2 v3 v4 v5 μ = some (r, μ') := h
  refine wm_iload_n E dM_condition_87 rfl (j := 1) rfl ?_
  refine wm_bipush (x := 7) E dM_condition_88 (by decide) ?_
  refine wm_icmp_ne (tgt := 120) E dM_condition_90 (by decide) (fun c90 => ?_) (fun c90 => ?_)
  · have h := (if_neg c90).symm.trans h
    refine wm_pick (lv' := [(0, vR v0), (1, vI v1), (2, vI v2), (3, vI v3), (4, vI v4), (5, vI v5)]) [0, 1, 2, 3, 4, 5] rfl ?_
    exact w_M_condition_120 E hQ hR hI v0 v1 v2 v3 v4 v5 μ h
  · have h := (if_pos c90).symm.trans h
    refine wm_iload_n E dM_condition_93 rfl (j := 2) rfl ?_
    refine wm_iload_n E dM_condition_94 rfl (j := 3) rfl ?_
    obtain ⟨x95, m95, hc95, h⟩ := b2S h
    refine wm_cS (As := [vI v2, vI v3]) (st := []) E lk_M_147 sc_M_isAt (C_M_isAt (xl X) X.1 v2 v3 μ _ _ hc95) rfl rfl (by rw [hR]; decide) (by rw [hR]; decide) (by decide) dM_condition_95 ?_
    refine wm_if_eq (tgt := 117) E dM_condition_98 (by decide) (fun c98 => ?_) (fun c98 => ?_)
    · have h := (if_pos c98).symm.trans h
      refine wm_pick (lv' := [(0, vR v0), (1, vI v1), (2, vI v2), (3, vI v3), (4, vI v4)]) [0, 1, 2, 3, 4] rfl ?_
      exact w_M_condition_117 E hQ hR hI v0 v1 v2 v3 v4 m95 h
    · have h := (if_neg c98).symm.trans h
      refine wm_iload E dM_condition_101 (j := 4) rfl ?_
      refine wm_iconst (x := 0) E dM_condition_103 (by decide) ?_
      refine wm_sipush (x := 10000) E dM_condition_104 (by decide) ?_
      obtain ⟨x107, m107, hc107, h⟩ := b2S h
      refine wm_cS (As := [vI v4, vI 0, vI 10000]) (st := []) E lk_M_139 sc_M_in (C_M_in (xl X) X.1 v4 0 10000 m95 _ _ hc107) rfl rfl (by rw [hR]; decide) (by rw [hR]; decide) (by decide) dM_condition_107 ?_
      refine wm_if_eq (tgt := 117) E dM_condition_110 (by decide) (fun c110 => ?_) (fun c110 => ?_)
      · have h := (if_pos c110).symm.trans h
        refine wm_pick (lv' := [(0, vR v0), (1, vI v1), (2, vI v2), (3, vI v3), (4, vI v4)]) [0, 1, 2, 3, 4] rfl ?_
        exact w_M_condition_117 E hQ hR hI v0 v1 v2 v3 v4 m107 h
      · have h := (if_neg c110).symm.trans h
        refine wm_iconst (x := 1) E dM_condition_113 (by decide) ?_
        refine wm_goto (tgt := 118) E dM_condition_114 (by decide) ?_
        refine wm_pick (lv' := [(0, vR v0), (1, vI v1), (2, vI v2), (3, vI v3), (4, vI v4)]) [0, 1, 2, 3, 4] rfl ?_
        exact w_M_condition_118 E hQ hR hI v0 v1 v2 v3 v4 1 m107 h
def B_M_condition_80  (v0 : Option Nat) (v1 : Int32) (v2 : Int32) (v3 : Int32) (v4 : Int32) (μ : Mem) : Option (Int32 × Mem) := b1 (rc μ v0 12) (fun _ => b2 (S_M_isPlace v0 v2 μ) (fun x82 m82 => B_M_condition_87 v0 v1 v2 v3 v4 x82 m82))
set_option maxHeartbeats 4000000 in
set_option maxRecDepth 100000 in
theorem w_M_condition_80 {X : CX} (E : EV X prog_13_method_34_code 8 "PlaceFinderModel" (some .int)) {μ0 μ' : Mem} {r : Int32} (hQ : RQ X 0 0 μ0 (some (vI r)) μ') (hR : xR X = { frames := 3, cells := 0, slots := 0, locals := 67 }) (hI : X.2.2.2.2.2.2.2.2.2.2.2.1.name = "condition")  (v0 : Option Nat) (v1 : Int32) (v2 : Int32) (v3 : Int32) (v4 : Int32) (μ : Mem) (h : B_M_condition_80  v0 v1 v2 v3 v4 μ = some (r, μ')) : WM X 8 80 [(0, vR v0), (1, vI v1), (2, vI v2), (3, vI v3), (4, vI v4)] [] 0 0 μ := by
  have h : b1 (rc μ v0 12) (fun _ => b2 (S_M_isPlace v0 v2 μ) (fun x82 m82 => B_M_condition_87 v0 v1 v2 v3 v4 x82 m82)) = some (r, μ') := h
  refine wm_aload_n E dM_condition_80 rfl (j := 0) rfl ?_
  refine wm_iload_n E dM_condition_81 rfl (j := 2) rfl ?_
  obtain ⟨u82, hr82, h⟩ := b1S h
  obtain ⟨x82, m82, hc82, h⟩ := b2S h
  refine wm_cV (ci := 12) (As := [vI v2]) (st := []) E lk_M_154 rfl im_M_isPlace sl_M_isPlace hr82 (C_M_isPlace (xl X) X.1 v0 v2 μ _ _ hc82) rfl rfl (by rw [hR]; decide) (by rw [hR]; decide) (by decide) dM_condition_82 ?_
  refine wm_istore (lv' := [(5, vI x82), (0, vR v0), (1, vI v1), (2, vI v2), (3, vI v3), (4, vI v4)]) E dM_condition_85 (by decide) rfl ?_
  refine wm_pick (lv' := [(0, vR v0), (1, vI v1), (2, vI v2), (3, vI v3), (4, vI v4), (5, vI x82)]) [1, 2, 3, 4, 5, 0] rfl ?_
  exact w_M_condition_87 E hQ hR hI v0 v1 v2 v3 v4 x82 m82 h
def B_M_condition_69  (v0 : Option Nat) (v1 : Int32) (v2 : Int32) (v3 : Int32) (v4 : Int32) (v5 : Int32) (μ : Mem) : Option (Int32 × Mem) := if v1 = 5 then B_M_condition_80 v0 v1 v2 v3 v4 μ else if v1 = 6 then B_M_condition_80 v0 v1 v2 v3 v4 μ else B_M_condition_87 v0 v1 v2 v3 v4 v5 μ
set_option maxHeartbeats 4000000 in
set_option maxRecDepth 100000 in
theorem w_M_condition_69 {X : CX} (E : EV X prog_13_method_34_code 8 "PlaceFinderModel" (some .int)) {μ0 μ' : Mem} {r : Int32} (hQ : RQ X 0 0 μ0 (some (vI r)) μ') (hR : xR X = { frames := 3, cells := 0, slots := 0, locals := 67 }) (hI : X.2.2.2.2.2.2.2.2.2.2.2.1.name = "condition")  (v0 : Option Nat) (v1 : Int32) (v2 : Int32) (v3 : Int32) (v4 : Int32) (v5 : Int32) (μ : Mem) (h : B_M_condition_69  v0 v1 v2 v3 v4 v5 μ = some (r, μ')) : WM X 8 69 [(0, vR v0), (1, vI v1), (2, vI v2), (3, vI v3), (4, vI v4), (5, vI v5)] [] 0 0 μ := by
  have h : if v1 = 5 then B_M_condition_80 v0 v1 v2 v3 v4 μ else if v1 = 6 then B_M_condition_80 v0 v1 v2 v3 v4 μ else B_M_condition_87 v0 v1 v2 v3 v4 v5 μ = some (r, μ') := h
  refine wm_iload_n E dM_condition_69 rfl (j := 1) rfl ?_
  refine wm_iconst (x := 5) E dM_condition_70 (by decide) ?_
  refine wm_icmp_eq (tgt := 80) E dM_condition_71 (by decide) (fun c71 => ?_) (fun c71 => ?_)
  · have h := (if_pos c71).symm.trans h
    refine wm_pick (lv' := [(0, vR v0), (1, vI v1), (2, vI v2), (3, vI v3), (4, vI v4)]) [0, 1, 2, 3, 4] rfl ?_
    exact w_M_condition_80 E hQ hR hI v0 v1 v2 v3 v4 μ h
  · have h := (if_neg c71).symm.trans h
    refine wm_iload_n E dM_condition_74 rfl (j := 1) rfl ?_
    refine wm_bipush (x := 6) E dM_condition_75 (by decide) ?_
    refine wm_icmp_ne (tgt := 87) E dM_condition_77 (by decide) (fun c77 => ?_) (fun c77 => ?_)
    · have h := (if_neg c77).symm.trans h
      refine wm_pick (lv' := [(0, vR v0), (1, vI v1), (2, vI v2), (3, vI v3), (4, vI v4), (5, vI v5)]) [0, 1, 2, 3, 4, 5] rfl ?_
      exact w_M_condition_87 E hQ hR hI v0 v1 v2 v3 v4 v5 μ h
    · have h := (if_pos c77).symm.trans h
      refine wm_pick (lv' := [(0, vR v0), (1, vI v1), (2, vI v2), (3, vI v3), (4, vI v4)]) [0, 1, 2, 3, 4] rfl ?_
      exact w_M_condition_80 E hQ hR hI v0 v1 v2 v3 v4 μ h
def B_M_condition_55  (v0 : Option Nat) (v1 : Int32) (v2 : Int32) (v3 : Int32) (v4 : Int32) (v5 : Int32) (μ : Mem) : Option (Int32 × Mem) := if v1 = 4 then b2 (S_M_in v2 0 7 μ) (fun x64 m64 => B_M_condition_69 v0 v1 v2 v3 v4 x64 m64) else B_M_condition_69 v0 v1 v2 v3 v4 v5 μ
set_option maxHeartbeats 4000000 in
set_option maxRecDepth 100000 in
theorem w_M_condition_55 {X : CX} (E : EV X prog_13_method_34_code 8 "PlaceFinderModel" (some .int)) {μ0 μ' : Mem} {r : Int32} (hQ : RQ X 0 0 μ0 (some (vI r)) μ') (hR : xR X = { frames := 3, cells := 0, slots := 0, locals := 67 }) (hI : X.2.2.2.2.2.2.2.2.2.2.2.1.name = "condition")  (v0 : Option Nat) (v1 : Int32) (v2 : Int32) (v3 : Int32) (v4 : Int32) (v5 : Int32) (μ : Mem) (h : B_M_condition_55  v0 v1 v2 v3 v4 v5 μ = some (r, μ')) : WM X 8 55 [(0, vR v0), (1, vI v1), (2, vI v2), (3, vI v3), (4, vI v4), (5, vI v5)] [] 0 0 μ := by
  have h : if v1 = 4 then b2 (S_M_in v2 0 7 μ) (fun x64 m64 => B_M_condition_69 v0 v1 v2 v3 v4 x64 m64) else B_M_condition_69 v0 v1 v2 v3 v4 v5 μ = some (r, μ') := h
  refine wm_iload_n E dM_condition_55 rfl (j := 1) rfl ?_
  refine wm_iconst (x := 4) E dM_condition_56 (by decide) ?_
  refine wm_icmp_ne (tgt := 69) E dM_condition_57 (by decide) (fun c57 => ?_) (fun c57 => ?_)
  · have h := (if_neg c57).symm.trans h
    refine wm_pick (lv' := [(0, vR v0), (1, vI v1), (2, vI v2), (3, vI v3), (4, vI v4), (5, vI v5)]) [0, 1, 2, 3, 4, 5] rfl ?_
    exact w_M_condition_69 E hQ hR hI v0 v1 v2 v3 v4 v5 μ h
  · have h := (if_pos c57).symm.trans h
    refine wm_iload_n E dM_condition_60 rfl (j := 2) rfl ?_
    refine wm_iconst (x := 0) E dM_condition_61 (by decide) ?_
    refine wm_bipush (x := 7) E dM_condition_62 (by decide) ?_
    obtain ⟨x64, m64, hc64, h⟩ := b2S h
    refine wm_cS (As := [vI v2, vI 0, vI 7]) (st := []) E lk_M_139 sc_M_in (C_M_in (xl X) X.1 v2 0 7 μ _ _ hc64) rfl rfl (by rw [hR]; decide) (by rw [hR]; decide) (by decide) dM_condition_64 ?_
    refine wm_istore (lv' := [(5, vI x64), (0, vR v0), (1, vI v1), (2, vI v2), (3, vI v3), (4, vI v4)]) E dM_condition_67 (by decide) rfl ?_
    refine wm_pick (lv' := [(0, vR v0), (1, vI v1), (2, vI v2), (3, vI v3), (4, vI v4), (5, vI x64)]) [1, 2, 3, 4, 5, 0] rfl ?_
    exact w_M_condition_69 E hQ hR hI v0 v1 v2 v3 v4 x64 m64 h
def B_M_condition_53  (v0 : Option Nat) (v1 : Int32) (v2 : Int32) (v3 : Int32) (v4 : Int32) (s0 : Int32) (μ : Mem) : Option (Int32 × Mem) := B_M_condition_55 v0 v1 v2 v3 v4 s0 μ
set_option maxHeartbeats 4000000 in
set_option maxRecDepth 100000 in
theorem w_M_condition_53 {X : CX} (E : EV X prog_13_method_34_code 8 "PlaceFinderModel" (some .int)) {μ0 μ' : Mem} {r : Int32} (hQ : RQ X 0 0 μ0 (some (vI r)) μ') (hR : xR X = { frames := 3, cells := 0, slots := 0, locals := 67 }) (hI : X.2.2.2.2.2.2.2.2.2.2.2.1.name = "condition")  (v0 : Option Nat) (v1 : Int32) (v2 : Int32) (v3 : Int32) (v4 : Int32) (s0 : Int32) (μ : Mem) (h : B_M_condition_53  v0 v1 v2 v3 v4 s0 μ = some (r, μ')) : WM X 8 53 [(0, vR v0), (1, vI v1), (2, vI v2), (3, vI v3), (4, vI v4)] [vI s0] 0 0 μ := by
  have h : B_M_condition_55 v0 v1 v2 v3 v4 s0 μ = some (r, μ') := h
  refine wm_istore (lv' := [(5, vI s0), (0, vR v0), (1, vI v1), (2, vI v2), (3, vI v3), (4, vI v4)]) E dM_condition_53 (by decide) rfl ?_
  refine wm_pick (lv' := [(0, vR v0), (1, vI v1), (2, vI v2), (3, vI v3), (4, vI v4), (5, vI s0)]) [1, 2, 3, 4, 5, 0] rfl ?_
  exact w_M_condition_55 E hQ hR hI v0 v1 v2 v3 v4 s0 μ h
def B_M_condition_52  (v0 : Option Nat) (v1 : Int32) (v2 : Int32) (v3 : Int32) (v4 : Int32) (μ : Mem) : Option (Int32 × Mem) := B_M_condition_53 v0 v1 v2 v3 v4 0 μ
set_option maxHeartbeats 4000000 in
set_option maxRecDepth 100000 in
theorem w_M_condition_52 {X : CX} (E : EV X prog_13_method_34_code 8 "PlaceFinderModel" (some .int)) {μ0 μ' : Mem} {r : Int32} (hQ : RQ X 0 0 μ0 (some (vI r)) μ') (hR : xR X = { frames := 3, cells := 0, slots := 0, locals := 67 }) (hI : X.2.2.2.2.2.2.2.2.2.2.2.1.name = "condition")  (v0 : Option Nat) (v1 : Int32) (v2 : Int32) (v3 : Int32) (v4 : Int32) (μ : Mem) (h : B_M_condition_52  v0 v1 v2 v3 v4 μ = some (r, μ')) : WM X 8 52 [(0, vR v0), (1, vI v1), (2, vI v2), (3, vI v3), (4, vI v4)] [] 0 0 μ := by
  have h : B_M_condition_53 v0 v1 v2 v3 v4 0 μ = some (r, μ') := h
  refine wm_iconst (x := 0) E dM_condition_52 (by decide) ?_
  refine wm_pick (lv' := [(0, vR v0), (1, vI v1), (2, vI v2), (3, vI v3), (4, vI v4)]) [0, 1, 2, 3, 4] rfl ?_
  exact w_M_condition_53 E hQ hR hI v0 v1 v2 v3 v4 0 μ h
def B_M_condition_27  (v0 : Option Nat) (v1 : Int32) (v2 : Int32) (v3 : Int32) (v4 : Int32) (s0 : Int32) (μ : Mem) : Option (Int32 × Mem) := if v1 = 2 then if s0 = 0 then B_M_condition_52 v0 v1 v2 v3 v4 μ else b2 (S_M_in v2 0 2 μ) (fun x42 m42 => if x42 = 0 then B_M_condition_52 v0 v1 v2 v3 v4 m42 else B_M_condition_53 v0 v1 v2 v3 v4 1 m42) else B_M_condition_55 v0 v1 v2 v3 v4 s0 μ
set_option maxHeartbeats 4000000 in
set_option maxRecDepth 100000 in
theorem w_M_condition_27 {X : CX} (E : EV X prog_13_method_34_code 8 "PlaceFinderModel" (some .int)) {μ0 μ' : Mem} {r : Int32} (hQ : RQ X 0 0 μ0 (some (vI r)) μ') (hR : xR X = { frames := 3, cells := 0, slots := 0, locals := 67 }) (hI : X.2.2.2.2.2.2.2.2.2.2.2.1.name = "condition")  (v0 : Option Nat) (v1 : Int32) (v2 : Int32) (v3 : Int32) (v4 : Int32) (s0 : Int32) (μ : Mem) (h : B_M_condition_27  v0 v1 v2 v3 v4 s0 μ = some (r, μ')) : WM X 8 27 [(0, vR v0), (1, vI v1), (2, vI v2), (3, vI v3), (4, vI v4)] [vI s0] 0 0 μ := by
  have h : if v1 = 2 then if s0 = 0 then B_M_condition_52 v0 v1 v2 v3 v4 μ else b2 (S_M_in v2 0 2 μ) (fun x42 m42 => if x42 = 0 then B_M_condition_52 v0 v1 v2 v3 v4 m42 else B_M_condition_53 v0 v1 v2 v3 v4 1 m42) else B_M_condition_55 v0 v1 v2 v3 v4 s0 μ = some (r, μ') := h
  refine wm_istore (lv' := [(5, vI s0), (0, vR v0), (1, vI v1), (2, vI v2), (3, vI v3), (4, vI v4)]) E dM_condition_27 (by decide) rfl ?_
  refine wm_iload_n E dM_condition_29 rfl (j := 2) rfl ?_
  refine wm_iconst (x := 2) E dM_condition_30 (by decide) ?_
  refine wm_icmp_ne (tgt := 55) E dM_condition_31 (by decide) (fun c31 => ?_) (fun c31 => ?_)
  · have h := (if_neg c31).symm.trans h
    refine wm_pick (lv' := [(0, vR v0), (1, vI v1), (2, vI v2), (3, vI v3), (4, vI v4), (5, vI s0)]) [1, 2, 3, 4, 5, 0] rfl ?_
    exact w_M_condition_55 E hQ hR hI v0 v1 v2 v3 v4 s0 μ h
  · have h := (if_pos c31).symm.trans h
    refine wm_iload E dM_condition_34 (j := 0) rfl ?_
    refine wm_if_eq (tgt := 52) E dM_condition_36 (by decide) (fun c36 => ?_) (fun c36 => ?_)
    · have h := (if_pos c36).symm.trans h
      refine wm_pick (lv' := [(0, vR v0), (1, vI v1), (2, vI v2), (3, vI v3), (4, vI v4)]) [1, 2, 3, 4, 5] rfl ?_
      exact w_M_condition_52 E hQ hR hI v0 v1 v2 v3 v4 μ h
    · have h := (if_neg c36).symm.trans h
      refine wm_iload_n E dM_condition_39 rfl (j := 3) rfl ?_
      refine wm_iconst (x := 0) E dM_condition_40 (by decide) ?_
      refine wm_iconst (x := 2) E dM_condition_41 (by decide) ?_
      obtain ⟨x42, m42, hc42, h⟩ := b2S h
      refine wm_cS (As := [vI v2, vI 0, vI 2]) (st := []) E lk_M_139 sc_M_in (C_M_in (xl X) X.1 v2 0 2 μ _ _ hc42) rfl rfl (by rw [hR]; decide) (by rw [hR]; decide) (by decide) dM_condition_42 ?_
      refine wm_if_eq (tgt := 52) E dM_condition_45 (by decide) (fun c45 => ?_) (fun c45 => ?_)
      · have h := (if_pos c45).symm.trans h
        refine wm_pick (lv' := [(0, vR v0), (1, vI v1), (2, vI v2), (3, vI v3), (4, vI v4)]) [1, 2, 3, 4, 5] rfl ?_
        exact w_M_condition_52 E hQ hR hI v0 v1 v2 v3 v4 m42 h
      · have h := (if_neg c45).symm.trans h
        refine wm_iconst (x := 1) E dM_condition_48 (by decide) ?_
        refine wm_goto (tgt := 53) E dM_condition_49 (by decide) ?_
        refine wm_pick (lv' := [(0, vR v0), (1, vI v1), (2, vI v2), (3, vI v3), (4, vI v4)]) [1, 2, 3, 4, 5] rfl ?_
        exact w_M_condition_53 E hQ hR hI v0 v1 v2 v3 v4 1 m42 h
def B_M_condition_26  (v0 : Option Nat) (v1 : Int32) (v2 : Int32) (v3 : Int32) (v4 : Int32) (μ : Mem) : Option (Int32 × Mem) := B_M_condition_27 v0 v1 v2 v3 v4 0 μ
set_option maxHeartbeats 4000000 in
set_option maxRecDepth 100000 in
theorem w_M_condition_26 {X : CX} (E : EV X prog_13_method_34_code 8 "PlaceFinderModel" (some .int)) {μ0 μ' : Mem} {r : Int32} (hQ : RQ X 0 0 μ0 (some (vI r)) μ') (hR : xR X = { frames := 3, cells := 0, slots := 0, locals := 67 }) (hI : X.2.2.2.2.2.2.2.2.2.2.2.1.name = "condition")  (v0 : Option Nat) (v1 : Int32) (v2 : Int32) (v3 : Int32) (v4 : Int32) (μ : Mem) (h : B_M_condition_26  v0 v1 v2 v3 v4 μ = some (r, μ')) : WM X 8 26 [(0, vR v0), (1, vI v1), (2, vI v2), (3, vI v3), (4, vI v4)] [] 0 0 μ := by
  have h : B_M_condition_27 v0 v1 v2 v3 v4 0 μ = some (r, μ') := h
  refine wm_iconst (x := 0) E dM_condition_26 (by decide) ?_
  refine wm_pick (lv' := [(0, vR v0), (1, vI v1), (2, vI v2), (3, vI v3), (4, vI v4)]) [0, 1, 2, 3, 4] rfl ?_
  exact w_M_condition_27 E hQ hR hI v0 v1 v2 v3 v4 0 μ h
def B_M_condition_22  (v0 : Option Nat) (v1 : Int32) (v2 : Int32) (v3 : Int32) (v4 : Int32) (μ : Mem) : Option (Int32 × Mem) := B_M_condition_27 v0 v1 v2 v3 v4 1 μ
set_option maxHeartbeats 4000000 in
set_option maxRecDepth 100000 in
theorem w_M_condition_22 {X : CX} (E : EV X prog_13_method_34_code 8 "PlaceFinderModel" (some .int)) {μ0 μ' : Mem} {r : Int32} (hQ : RQ X 0 0 μ0 (some (vI r)) μ') (hR : xR X = { frames := 3, cells := 0, slots := 0, locals := 67 }) (hI : X.2.2.2.2.2.2.2.2.2.2.2.1.name = "condition")  (v0 : Option Nat) (v1 : Int32) (v2 : Int32) (v3 : Int32) (v4 : Int32) (μ : Mem) (h : B_M_condition_22  v0 v1 v2 v3 v4 μ = some (r, μ')) : WM X 8 22 [(0, vR v0), (1, vI v1), (2, vI v2), (3, vI v3), (4, vI v4)] [] 0 0 μ := by
  have h : B_M_condition_27 v0 v1 v2 v3 v4 1 μ = some (r, μ') := h
  refine wm_iconst (x := 1) E dM_condition_22 (by decide) ?_
  refine wm_goto (tgt := 27) E dM_condition_23 (by decide) ?_
  refine wm_pick (lv' := [(0, vR v0), (1, vI v1), (2, vI v2), (3, vI v3), (4, vI v4)]) [0, 1, 2, 3, 4] rfl ?_
  exact w_M_condition_27 E hQ hR hI v0 v1 v2 v3 v4 1 μ h
def S_M_condition (v0 : Option Nat) (v1 : Int32) (v2 : Int32) (v3 : Int32) (v4 : Int32) (μ : Mem) : Option (Int32 × Mem) := b2 (S_M_in v1 0 8 μ) (fun x4 m4 => if x4 = 0 then B_M_condition_26 v0 v1 v2 v3 v4 m4 else if 3 < v1 then B_M_condition_22 v0 v1 v2 v3 v4 m4 else b1 (gI m4 v0 12 21) (fun x16 => if x16 ≤ 0 then B_M_condition_26 v0 v1 v2 v3 v4 m4 else B_M_condition_22 v0 v1 v2 v3 v4 m4))
set_option maxHeartbeats 4000000 in
set_option maxRecDepth 100000 in
theorem C_M_condition (l : Launch) (G : GG) (v0 : Option Nat) (v1 : Int32) (v2 : Int32) (v3 : Int32) (v4 : Int32) (μ μ' : Mem) (r : Int32) (h : S_M_condition v0 v1 v2 v3 v4 μ = some (r, μ')) : CT l G y_M_condition prog_13_method_34_code 8 (some .int) 3 0 0 67 μ [vR v0, vI v1, vI v2, vI v3, vI v4] (some (vI r)) μ' := by
  refine wm_met (lv := [(0, vR v0), (1, vI v1), (2, vI v2), (3, vI v3), (4, vI v4)]) (by decide +kernel) (Nat.le_of_ble_eq_true rfl) rfl (fun X E hQ hR hI => ?_)
  have h : b2 (S_M_in v1 0 8 μ) (fun x4 m4 => if x4 = 0 then B_M_condition_26 v0 v1 v2 v3 v4 m4 else if 3 < v1 then B_M_condition_22 v0 v1 v2 v3 v4 m4 else b1 (gI m4 v0 12 21) (fun x16 => if x16 ≤ 0 then B_M_condition_26 v0 v1 v2 v3 v4 m4 else B_M_condition_22 v0 v1 v2 v3 v4 m4)) = some (r, μ') := h
  refine wm_iload_n E dM_condition_0 rfl (j := 1) rfl ?_
  refine wm_iconst (x := 0) E dM_condition_1 (by decide) ?_
  refine wm_bipush (x := 8) E dM_condition_2 (by decide) ?_
  obtain ⟨x4, m4, hc4, h⟩ := b2S h
  refine wm_cS (As := [vI v1, vI 0, vI 8]) (st := []) E lk_M_139 sc_M_in (C_M_in (xl X) X.1 v1 0 8 μ _ _ hc4) rfl rfl (by rw [hR]; decide) (by rw [hR]; decide) (by decide) dM_condition_4 ?_
  refine wm_if_eq (tgt := 26) E dM_condition_7 (by decide) (fun c7 => ?_) (fun c7 => ?_)
  · have h := (if_pos c7).symm.trans h
    refine wm_pick (lv' := [(0, vR v0), (1, vI v1), (2, vI v2), (3, vI v3), (4, vI v4)]) [0, 1, 2, 3, 4] rfl ?_
    exact w_M_condition_26 E hQ hR hI v0 v1 v2 v3 v4 m4 h
  · have h := (if_neg c7).symm.trans h
    refine wm_iload_n E dM_condition_10 rfl (j := 1) rfl ?_
    refine wm_iconst (x := 3) E dM_condition_11 (by decide) ?_
    refine wm_icmp_gt (tgt := 22) E dM_condition_12 (by decide) (fun c12 => ?_) (fun c12 => ?_)
    · have h := (if_pos c12).symm.trans h
      refine wm_pick (lv' := [(0, vR v0), (1, vI v1), (2, vI v2), (3, vI v3), (4, vI v4)]) [0, 1, 2, 3, 4] rfl ?_
      exact w_M_condition_22 E hQ hR hI v0 v1 v2 v3 v4 m4 h
    · have h := (if_neg c12).symm.trans h
      refine wm_aload_n E dM_condition_15 rfl (j := 0) rfl ?_
      refine wm_gI E fd_M_172 h dM_condition_16 (fun x16 h => ?_)
      refine wm_if_le (tgt := 26) E dM_condition_19 (by decide) (fun c19 => ?_) (fun c19 => ?_)
      · have h := (if_pos c19).symm.trans h
        refine wm_pick (lv' := [(0, vR v0), (1, vI v1), (2, vI v2), (3, vI v3), (4, vI v4)]) [0, 1, 2, 3, 4] rfl ?_
        exact w_M_condition_26 E hQ hR hI v0 v1 v2 v3 v4 m4 h
      · have h := (if_neg c19).symm.trans h
        refine wm_pick (lv' := [(0, vR v0), (1, vI v1), (2, vI v2), (3, vI v3), (4, vI v4)]) [0, 1, 2, 3, 4] rfl ?_
        exact w_M_condition_22 E hQ hR hI v0 v1 v2 v3 v4 m4 h
def S_M_clear (v0 : Option Nat) (μ : Mem) : Option (Unit × Mem) := b1 (pV μ v0 12 0 (vI 0)) (fun m2 => b1 (gR m2 v0 12 23) (fun x6 => b1 (sI m2 x6 0 0 0) (fun m11 => some ((), m11))))
set_option maxHeartbeats 4000000 in
set_option maxRecDepth 100000 in
theorem C_M_clear (l : Launch) (G : GG) (v0 : Option Nat) (μ μ' : Mem) (r : Unit) (h : S_M_clear v0 μ = some (r, μ')) : CT l G y_M_clear prog_13_method_35_code 1 none 0 0 0 0 μ [vR v0] none μ' := by
  refine wm_met (lv := [(0, vR v0)]) (by decide +kernel) (Nat.le_of_ble_eq_true rfl) rfl (fun X E hQ hR hI => ?_)
  have h : b1 (pV μ v0 12 0 (vI 0)) (fun m2 => b1 (gR m2 v0 12 23) (fun x6 => b1 (sI m2 x6 0 0 0) (fun m11 => some ((), m11)))) = some (r, μ') := h
  refine wm_aload_n E dM_clear_0 rfl (j := 0) rfl ?_
  refine wm_iconst (x := 0) E dM_clear_1 (by decide) ?_
  refine wm_pI E fp_M_132 (fun q => by cases q) h dM_clear_2 (fun m2 h => ?_)
  refine wm_aload_n E dM_clear_5 rfl (j := 0) rfl ?_
  refine wm_gR E fd_M_67 h dM_clear_6 (fun x6 h => ?_)
  refine wm_iconst (x := 0) E dM_clear_9 (by decide) ?_
  refine wm_iconst (x := 0) E dM_clear_10 (by decide) ?_
  refine wm_iast (t := 0) E rfl h dM_clear_11 (fun m11 h => ?_)
  exact wm_vret E hQ rfl (rtM h) (by decide) (by decide) dM_clear_12
def B_M_isNamed_208  (v5 : Int32) (μ : Mem) : Option (Int32 × Mem) := gd (¬ okZ v5 = true) (some (v5, μ))
set_option maxHeartbeats 4000000 in
set_option maxRecDepth 100000 in
theorem w_M_isNamed_208 {X : CX} (E : EV X prog_13_method_36_code 7 "PlaceFinderModel" (some .boolean)) {μ0 μ' : Mem} {r : Int32} (hQ : RQ X 0 0 μ0 (some (vI r)) μ') (hR : xR X = { frames := 2, cells := 0, slots := 0, locals := 44 }) (hI : X.2.2.2.2.2.2.2.2.2.2.2.1.name = "isNamed")  (v5 : Int32) (μ : Mem) (h : B_M_isNamed_208  v5 μ = some (r, μ')) : WM X 7 208 [(5, vI v5)] [] 0 0 μ := by
  have h : gd (¬ okZ v5 = true) (some (v5, μ)) = some (r, μ') := h
  refine wm_iload E dM_isNamed_208 (j := 0) rfl ?_
  obtain ⟨hz210, h⟩ := gdS h
  exact wm_zret (rt := .boolean) E hQ (rtI h) (rtM h) (okZN hz210) (by decide) (by decide) dM_isNamed_210
def B_M_isNamed_200 (k161 : Option Nat → Int32 → Int32 → Int32 → Int32 → Mem → Option (Int32 × Mem)) (v0 : Option Nat) (v2 : Int32) (v4 : Int32) (v6 : Int32) (s0 : Int32) (μ : Mem) : Option (Int32 × Mem) := k161 v0 v2 v4 s0 (v6 + 1) μ
set_option maxHeartbeats 4000000 in
set_option maxRecDepth 100000 in
theorem w_M_isNamed_200 {X : CX} (E : EV X prog_13_method_36_code 7 "PlaceFinderModel" (some .boolean)) {μ0 μ' : Mem} {r : Int32} (hQ : RQ X 0 0 μ0 (some (vI r)) μ') (hR : xR X = { frames := 2, cells := 0, slots := 0, locals := 44 }) (hI : X.2.2.2.2.2.2.2.2.2.2.2.1.name = "isNamed") (k161 : Option Nat → Int32 → Int32 → Int32 → Int32 → Mem → Option (Int32 × Mem)) (hk161 : ∀ (v0 : Option Nat) (v2 : Int32) (v4 : Int32) (v5 : Int32) (v6 : Int32) (μ : Mem), k161 v0 v2 v4 v5 v6 μ = some (r, μ') → WM X 7 161 [(0, vR v0), (2, vI v2), (4, vI v4), (5, vI v5), (6, vI v6)] [] 0 0 μ) (v0 : Option Nat) (v2 : Int32) (v4 : Int32) (v6 : Int32) (s0 : Int32) (μ : Mem) (h : B_M_isNamed_200 k161 v0 v2 v4 v6 s0 μ = some (r, μ')) : WM X 7 200 [(0, vR v0), (2, vI v2), (4, vI v4), (6, vI v6)] [vI s0] 0 0 μ := by
  have h : k161 v0 v2 v4 s0 (v6 + 1) μ = some (r, μ') := h
  refine wm_istore (lv' := [(5, vI s0), (0, vR v0), (2, vI v2), (4, vI v4), (6, vI v6)]) E dM_isNamed_200 (by decide) rfl ?_
  refine wm_iinc (lv' := [(6, vI (v6 + 1)), (5, vI s0), (0, vR v0), (2, vI v2), (4, vI v4)]) (d := 1) E dM_isNamed_202 (by decide) (j := 4) rfl (by decide) rfl ?_
  refine wm_goto (tgt := 161) E dM_isNamed_205 (by decide) ?_
  refine wm_pick (lv' := [(0, vR v0), (2, vI v2), (4, vI v4), (5, vI s0), (6, vI (v6 + 1))]) [2, 3, 4, 1, 0] rfl ?_
  exact hk161 v0 v2 v4 s0 (v6 + 1) μ h
def B_M_isNamed_161  : Nat → Option Nat → Int32 → Int32 → Int32 → Int32 → Mem → Option (Int32 × Mem)
  | 0, _, _, _, _, _, _ => none
  | n + 1, v0, v2, v4, v5, v6, μ => if v4 ≤ v6 then B_M_isNamed_208 v5 μ else if v5 = 0 then B_M_isNamed_208 v5 μ else b1 (gR μ v0 12 39) (fun x174 => b1 (aI μ x174 0 v6) (fun x179 => b1 (gR μ v0 12 29) (fun x181 => b1 (aI μ x181 0 ((10 * v2) + v6)) (fun x191 => if x179 = x191 then B_M_isNamed_200 (fun v0 v2 v4 v5 v6 μ => B_M_isNamed_161 n v0 v2 v4 v5 v6 μ) v0 v2 v4 v6 1 μ else B_M_isNamed_200 (fun v0 v2 v4 v5 v6 μ => B_M_isNamed_161 n v0 v2 v4 v5 v6 μ) v0 v2 v4 v6 0 μ))))
set_option maxHeartbeats 4000000 in
set_option maxRecDepth 100000 in
theorem w_M_isNamed_161 {X : CX} (E : EV X prog_13_method_36_code 7 "PlaceFinderModel" (some .boolean)) {μ0 μ' : Mem} {r : Int32} (hQ : RQ X 0 0 μ0 (some (vI r)) μ') (hR : xR X = { frames := 2, cells := 0, slots := 0, locals := 44 }) (hI : X.2.2.2.2.2.2.2.2.2.2.2.1.name = "isNamed")  (n : Nat) : ∀ (v0 : Option Nat) (v2 : Int32) (v4 : Int32) (v5 : Int32) (v6 : Int32) (μ : Mem) (h : B_M_isNamed_161  n v0 v2 v4 v5 v6 μ = some (r, μ')), WM X 7 161 [(0, vR v0), (2, vI v2), (4, vI v4), (5, vI v5), (6, vI v6)] [] 0 0 μ := by
  induction n with
  | zero => intro v0 v2 v4 v5 v6 μ h; cases h
  | succ n ih =>
    intro v0 v2 v4 v5 v6 μ h
    have h : if v4 ≤ v6 then B_M_isNamed_208 v5 μ else if v5 = 0 then B_M_isNamed_208 v5 μ else b1 (gR μ v0 12 39) (fun x174 => b1 (aI μ x174 0 v6) (fun x179 => b1 (gR μ v0 12 29) (fun x181 => b1 (aI μ x181 0 ((10 * v2) + v6)) (fun x191 => if x179 = x191 then B_M_isNamed_200 (fun v0 v2 v4 v5 v6 μ => B_M_isNamed_161 n v0 v2 v4 v5 v6 μ) v0 v2 v4 v6 1 μ else B_M_isNamed_200 (fun v0 v2 v4 v5 v6 μ => B_M_isNamed_161 n v0 v2 v4 v5 v6 μ) v0 v2 v4 v6 0 μ)))) = some (r, μ') := h
    refine wm_iload E dM_isNamed_161 (j := 4) rfl ?_
    refine wm_iload E dM_isNamed_163 (j := 2) rfl ?_
    refine wm_icmp_ge (tgt := 208) E dM_isNamed_165 (by decide) (fun c165 => ?_) (fun c165 => ?_)
    · have h := (if_pos c165).symm.trans h
      refine wm_pick (lv' := [(5, vI v5)]) [3] rfl ?_
      exact w_M_isNamed_208 E hQ hR hI v5 μ h
    · have h := (if_neg c165).symm.trans h
      refine wm_iload E dM_isNamed_168 (j := 3) rfl ?_
      refine wm_if_eq (tgt := 208) E dM_isNamed_170 (by decide) (fun c170 => ?_) (fun c170 => ?_)
      · have h := (if_pos c170).symm.trans h
        refine wm_pick (lv' := [(5, vI v5)]) [3] rfl ?_
        exact w_M_isNamed_208 E hQ hR hI v5 μ h
      · have h := (if_neg c170).symm.trans h
        refine wm_aload_n E dM_isNamed_173 rfl (j := 0) rfl ?_
        refine wm_gR E fd_M_110 h dM_isNamed_174 (fun x174 h => ?_)
        refine wm_iload E dM_isNamed_177 (j := 4) rfl ?_
        refine wm_iald (t := 0) E rfl h dM_isNamed_179 (fun x179 h => ?_)
        refine wm_aload_n E dM_isNamed_180 rfl (j := 0) rfl ?_
        refine wm_gR E fd_M_85 h dM_isNamed_181 (fun x181 h => ?_)
        refine wm_bipush (x := 10) E dM_isNamed_184 (by decide) ?_
        refine wm_iload_n E dM_isNamed_186 rfl (j := 1) rfl ?_
        refine wm_imul E dM_isNamed_187 ?_
        refine wm_iload E dM_isNamed_188 (j := 4) rfl ?_
        refine wm_iadd E dM_isNamed_190 ?_
        refine wm_iald (t := 0) E rfl h dM_isNamed_191 (fun x191 h => ?_)
        refine wm_icmp_ne (tgt := 199) E dM_isNamed_192 (by decide) (fun c192 => ?_) (fun c192 => ?_)
        · have h := (if_neg c192).symm.trans h
          refine wm_iconst (x := 0) E dM_isNamed_199 (by decide) ?_
          refine wm_pick (lv' := [(0, vR v0), (2, vI v2), (4, vI v4), (6, vI v6)]) [0, 1, 2, 4] rfl ?_
          exact w_M_isNamed_200 E hQ hR hI (fun v0 v2 v4 v5 v6 μ => B_M_isNamed_161 n v0 v2 v4 v5 v6 μ) ih v0 v2 v4 v6 0 μ h
        · have h := (if_pos c192).symm.trans h
          refine wm_iconst (x := 1) E dM_isNamed_195 (by decide) ?_
          refine wm_goto (tgt := 200) E dM_isNamed_196 (by decide) ?_
          refine wm_pick (lv' := [(0, vR v0), (2, vI v2), (4, vI v4), (6, vI v6)]) [0, 1, 2, 4] rfl ?_
          exact w_M_isNamed_200 E hQ hR hI (fun v0 v2 v4 v5 v6 μ => B_M_isNamed_161 n v0 v2 v4 v5 v6 μ) ih v0 v2 v4 v6 1 μ h
def B_M_isNamed_156  (v0 : Option Nat) (v2 : Int32) (v4 : Int32) (s0 : Int32) (μ : Mem) : Option (Int32 × Mem) := B_M_isNamed_161 fu v0 v2 v4 s0 0 μ
set_option maxHeartbeats 4000000 in
set_option maxRecDepth 100000 in
theorem w_M_isNamed_156 {X : CX} (E : EV X prog_13_method_36_code 7 "PlaceFinderModel" (some .boolean)) {μ0 μ' : Mem} {r : Int32} (hQ : RQ X 0 0 μ0 (some (vI r)) μ') (hR : xR X = { frames := 2, cells := 0, slots := 0, locals := 44 }) (hI : X.2.2.2.2.2.2.2.2.2.2.2.1.name = "isNamed")  (v0 : Option Nat) (v2 : Int32) (v4 : Int32) (s0 : Int32) (μ : Mem) (h : B_M_isNamed_156  v0 v2 v4 s0 μ = some (r, μ')) : WM X 7 156 [(0, vR v0), (2, vI v2), (4, vI v4)] [vI s0] 0 0 μ := by
  have h : B_M_isNamed_161 fu v0 v2 v4 s0 0 μ = some (r, μ') := h
  refine wm_istore (lv' := [(5, vI s0), (0, vR v0), (2, vI v2), (4, vI v4)]) E dM_isNamed_156 (by decide) rfl ?_
  refine wm_iconst (x := 0) E dM_isNamed_158 (by decide) ?_
  refine wm_istore (lv' := [(6, vI 0), (5, vI s0), (0, vR v0), (2, vI v2), (4, vI v4)]) E dM_isNamed_159 (by decide) rfl ?_
  refine wm_pick (lv' := [(0, vR v0), (2, vI v2), (4, vI v4), (5, vI s0), (6, vI 0)]) [2, 3, 4, 1, 0] rfl ?_
  exact w_M_isNamed_161 E hQ hR hI fu v0 v2 v4 s0 0 μ h
def B_M_isNamed_120  (s0 : Int32) (μ : Mem) : Option (Int32 × Mem) := gd (¬ okZ s0 = true) (some (s0, μ))
set_option maxHeartbeats 4000000 in
set_option maxRecDepth 100000 in
theorem w_M_isNamed_120 {X : CX} (E : EV X prog_13_method_36_code 7 "PlaceFinderModel" (some .boolean)) {μ0 μ' : Mem} {r : Int32} (hQ : RQ X 0 0 μ0 (some (vI r)) μ') (hR : xR X = { frames := 2, cells := 0, slots := 0, locals := 44 }) (hI : X.2.2.2.2.2.2.2.2.2.2.2.1.name = "isNamed")  (s0 : Int32) (μ : Mem) (h : B_M_isNamed_120  s0 μ = some (r, μ')) : WM X 7 120 [] [vI s0] 0 0 μ := by
  have h : gd (¬ okZ s0 = true) (some (s0, μ)) = some (r, μ') := h
  obtain ⟨hz120, h⟩ := gdS h
  exact wm_zret (rt := .boolean) E hQ (rtI h) (rtM h) (okZN hz120) (by decide) (by decide) dM_isNamed_120
def B_M_isNamed_74  : Nat → Option Nat → Int32 → Int32 → Int32 → Int32 → Mem → Option (Int32 × Mem)
  | 0, _, _, _, _, _, _ => none
  | n + 1, v0, v2, v4, v5, v6, μ => if v4 ≤ v6 then b1 (rc μ v0 12) (fun _ => b2 (S_M_soundOf v0 μ) (fun x107 m107 => if x107 = v5 then B_M_isNamed_120 1 m107 else B_M_isNamed_120 0 m107)) else b1 (gR μ v0 12 39) (fun x82 => b1 (gR μ v0 12 29) (fun x88 => b1 (aI μ x88 0 ((10 * v2) + v6)) (fun x98 => b1 (sI μ x82 0 v6 x98) (fun m99 => (fun v0 v2 v4 v5 v6 μ => B_M_isNamed_74 n v0 v2 v4 v5 v6 μ) v0 v2 v4 v5 (v6 + 1) m99))))
set_option maxHeartbeats 4000000 in
set_option maxRecDepth 100000 in
theorem w_M_isNamed_74 {X : CX} (E : EV X prog_13_method_36_code 7 "PlaceFinderModel" (some .boolean)) {μ0 μ' : Mem} {r : Int32} (hQ : RQ X 0 0 μ0 (some (vI r)) μ') (hR : xR X = { frames := 2, cells := 0, slots := 0, locals := 44 }) (hI : X.2.2.2.2.2.2.2.2.2.2.2.1.name = "isNamed")  (n : Nat) : ∀ (v0 : Option Nat) (v2 : Int32) (v4 : Int32) (v5 : Int32) (v6 : Int32) (μ : Mem) (h : B_M_isNamed_74  n v0 v2 v4 v5 v6 μ = some (r, μ')), WM X 7 74 [(0, vR v0), (2, vI v2), (4, vI v4), (5, vI v5), (6, vI v6)] [] 0 0 μ := by
  induction n with
  | zero => intro v0 v2 v4 v5 v6 μ h; cases h
  | succ n ih =>
    intro v0 v2 v4 v5 v6 μ h
    have h : if v4 ≤ v6 then b1 (rc μ v0 12) (fun _ => b2 (S_M_soundOf v0 μ) (fun x107 m107 => if x107 = v5 then B_M_isNamed_120 1 m107 else B_M_isNamed_120 0 m107)) else b1 (gR μ v0 12 39) (fun x82 => b1 (gR μ v0 12 29) (fun x88 => b1 (aI μ x88 0 ((10 * v2) + v6)) (fun x98 => b1 (sI μ x82 0 v6 x98) (fun m99 => (fun v0 v2 v4 v5 v6 μ => B_M_isNamed_74 n v0 v2 v4 v5 v6 μ) v0 v2 v4 v5 (v6 + 1) m99)))) = some (r, μ') := h
    refine wm_iload E dM_isNamed_74 (j := 4) rfl ?_
    refine wm_iload E dM_isNamed_76 (j := 2) rfl ?_
    refine wm_icmp_ge (tgt := 106) E dM_isNamed_78 (by decide) (fun c78 => ?_) (fun c78 => ?_)
    · have h := (if_pos c78).symm.trans h
      refine wm_aload_n E dM_isNamed_106 rfl (j := 0) rfl ?_
      obtain ⟨u107, hr107, h⟩ := b1S h
      obtain ⟨x107, m107, hc107, h⟩ := b2S h
      refine wm_cV (ci := 12) (As := []) (st := []) E lk_M_191 rfl im_M_soundOf sl_M_soundOf hr107 (C_M_soundOf (xl X) X.1 v0 μ _ _ hc107) rfl rfl (by rw [hR]; decide) (by rw [hR]; decide) (by decide) dM_isNamed_107 ?_
      refine wm_iload E dM_isNamed_110 (j := 3) rfl ?_
      refine wm_icmp_ne (tgt := 119) E dM_isNamed_112 (by decide) (fun c112 => ?_) (fun c112 => ?_)
      · have h := (if_neg c112).symm.trans h
        refine wm_iconst (x := 0) E dM_isNamed_119 (by decide) ?_
        refine wm_pick (lv' := []) [] rfl ?_
        exact w_M_isNamed_120 E hQ hR hI 0 m107 h
      · have h := (if_pos c112).symm.trans h
        refine wm_iconst (x := 1) E dM_isNamed_115 (by decide) ?_
        refine wm_goto (tgt := 120) E dM_isNamed_116 (by decide) ?_
        refine wm_pick (lv' := []) [] rfl ?_
        exact w_M_isNamed_120 E hQ hR hI 1 m107 h
    · have h := (if_neg c78).symm.trans h
      refine wm_aload_n E dM_isNamed_81 rfl (j := 0) rfl ?_
      refine wm_gR E fd_M_110 h dM_isNamed_82 (fun x82 h => ?_)
      refine wm_iload E dM_isNamed_85 (j := 4) rfl ?_
      refine wm_aload_n E dM_isNamed_87 rfl (j := 0) rfl ?_
      refine wm_gR E fd_M_85 h dM_isNamed_88 (fun x88 h => ?_)
      refine wm_bipush (x := 10) E dM_isNamed_91 (by decide) ?_
      refine wm_iload_n E dM_isNamed_93 rfl (j := 1) rfl ?_
      refine wm_imul E dM_isNamed_94 ?_
      refine wm_iload E dM_isNamed_95 (j := 4) rfl ?_
      refine wm_iadd E dM_isNamed_97 ?_
      refine wm_iald (t := 0) E rfl h dM_isNamed_98 (fun x98 h => ?_)
      refine wm_iast (t := 0) E rfl h dM_isNamed_99 (fun m99 h => ?_)
      refine wm_iinc (lv' := [(6, vI (v6 + 1)), (0, vR v0), (2, vI v2), (4, vI v4), (5, vI v5)]) (d := 1) E dM_isNamed_100 (by decide) (j := 4) rfl (by decide) rfl ?_
      refine wm_goto (tgt := 74) E dM_isNamed_103 (by decide) ?_
      refine wm_pick (lv' := [(0, vR v0), (2, vI v2), (4, vI v4), (5, vI v5), (6, vI (v6 + 1))]) [1, 2, 3, 4, 0] rfl ?_
      exact ih v0 v2 v4 v5 (v6 + 1) m99 h
def B_M_isNamed_53  (s0 : Int32) (μ : Mem) : Option (Int32 × Mem) := gd (¬ okZ s0 = true) (some (s0, μ))
set_option maxHeartbeats 4000000 in
set_option maxRecDepth 100000 in
theorem w_M_isNamed_53 {X : CX} (E : EV X prog_13_method_36_code 7 "PlaceFinderModel" (some .boolean)) {μ0 μ' : Mem} {r : Int32} (hQ : RQ X 0 0 μ0 (some (vI r)) μ') (hR : xR X = { frames := 2, cells := 0, slots := 0, locals := 44 }) (hI : X.2.2.2.2.2.2.2.2.2.2.2.1.name = "isNamed")  (s0 : Int32) (μ : Mem) (h : B_M_isNamed_53  s0 μ = some (r, μ')) : WM X 7 53 [] [vI s0] 0 0 μ := by
  have h : gd (¬ okZ s0 = true) (some (s0, μ)) = some (r, μ') := h
  obtain ⟨hz53, h⟩ := gdS h
  exact wm_zret (rt := .boolean) E hQ (rtI h) (rtM h) (okZN hz53) (by decide) (by decide) dM_isNamed_53
def S_M_isNamed (v0 : Option Nat) (v1 : Int32) (v2 : Int32) (μ : Mem) : Option (Int32 × Mem) := b1 (gR μ v0 12 24) (fun x1 => b1 (aI μ x1 0 v2) (fun x5 => b1 (gR μ v0 12 28) (fun x8 => b1 (aI μ x8 0 v2) (fun x12 => b1 (rc μ v0 12) (fun _ => b2 (S_M_foldName v0 v1 μ) (fun x17 m17 => if x5 = 2 then b1 (gR m17 v0 12 29) (fun x27 => b1 (rc m17 v0 12) (fun _ => b2 (S_M_errorsTo v0 x27 (10 * v2) x12 m17) (fun x36 m36 => b1 (gR m36 v0 12 25) (fun x40 => b1 (aI m36 x40 0 v2) (fun x44 => if x44 < x36 then B_M_isNamed_53 0 m36 else B_M_isNamed_53 1 m36))))) else if x5 = 3 then b1 (rc m17 v0 12) (fun _ => b2 (S_M_soundOf v0 m17) (fun x60 m60 => b1 (pV m60 v0 12 38 (vI x12)) (fun m68 => B_M_isNamed_74 fu v0 v2 x12 x60 0 m68))) else if x5 = 0 then b1 (gI m17 v0 12 38) (fun x126 => if x126 = x12 then B_M_isNamed_156 v0 v2 x12 1 m17 else B_M_isNamed_156 v0 v2 x12 0 m17) else b1 (gI m17 v0 12 38) (fun x143 => if x143 < x12 then B_M_isNamed_156 v0 v2 x12 0 m17 else B_M_isNamed_156 v0 v2 x12 1 m17)))))))
set_option maxHeartbeats 4000000 in
set_option maxRecDepth 100000 in
theorem C_M_isNamed (l : Launch) (G : GG) (v0 : Option Nat) (v1 : Int32) (v2 : Int32) (μ μ' : Mem) (r : Int32) (h : S_M_isNamed v0 v1 v2 μ = some (r, μ')) : CT l G y_M_isNamed prog_13_method_36_code 7 (some .boolean) 2 0 0 44 μ [vR v0, vI v1, vI v2] (some (vI r)) μ' := by
  refine wm_met (lv := [(0, vR v0), (1, vI v1), (2, vI v2)]) (by decide +kernel) (Nat.le_of_ble_eq_true rfl) rfl (fun X E hQ hR hI => ?_)
  have h : b1 (gR μ v0 12 24) (fun x1 => b1 (aI μ x1 0 v2) (fun x5 => b1 (gR μ v0 12 28) (fun x8 => b1 (aI μ x8 0 v2) (fun x12 => b1 (rc μ v0 12) (fun _ => b2 (S_M_foldName v0 v1 μ) (fun x17 m17 => if x5 = 2 then b1 (gR m17 v0 12 29) (fun x27 => b1 (rc m17 v0 12) (fun _ => b2 (S_M_errorsTo v0 x27 (10 * v2) x12 m17) (fun x36 m36 => b1 (gR m36 v0 12 25) (fun x40 => b1 (aI m36 x40 0 v2) (fun x44 => if x44 < x36 then B_M_isNamed_53 0 m36 else B_M_isNamed_53 1 m36))))) else if x5 = 3 then b1 (rc m17 v0 12) (fun _ => b2 (S_M_soundOf v0 m17) (fun x60 m60 => b1 (pV m60 v0 12 38 (vI x12)) (fun m68 => B_M_isNamed_74 fu v0 v2 x12 x60 0 m68))) else if x5 = 0 then b1 (gI m17 v0 12 38) (fun x126 => if x126 = x12 then B_M_isNamed_156 v0 v2 x12 1 m17 else B_M_isNamed_156 v0 v2 x12 0 m17) else b1 (gI m17 v0 12 38) (fun x143 => if x143 < x12 then B_M_isNamed_156 v0 v2 x12 0 m17 else B_M_isNamed_156 v0 v2 x12 1 m17))))))) = some (r, μ') := h
  refine wm_aload_n E dM_isNamed_0 rfl (j := 0) rfl ?_
  refine wm_gR E fd_M_70 h dM_isNamed_1 (fun x1 h => ?_)
  refine wm_iload_n E dM_isNamed_4 rfl (j := 2) rfl ?_
  refine wm_iald (t := 0) E rfl h dM_isNamed_5 (fun x5 h => ?_)
  refine wm_istore_n (lv' := [(3, vI x5), (0, vR v0), (1, vI v1), (2, vI v2)]) E dM_isNamed_6 rfl (by decide) rfl ?_
  refine wm_aload_n E dM_isNamed_7 rfl (j := 1) rfl ?_
  refine wm_gR E fd_M_82 h dM_isNamed_8 (fun x8 h => ?_)
  refine wm_iload_n E dM_isNamed_11 rfl (j := 3) rfl ?_
  refine wm_iald (t := 0) E rfl h dM_isNamed_12 (fun x12 h => ?_)
  refine wm_istore (lv' := [(4, vI x12), (3, vI x5), (0, vR v0), (1, vI v1), (2, vI v2)]) E dM_isNamed_13 (by decide) rfl ?_
  refine wm_aload_n E dM_isNamed_15 rfl (j := 2) rfl ?_
  refine wm_iload_n E dM_isNamed_16 rfl (j := 3) rfl ?_
  obtain ⟨u17, hr17, h⟩ := b1S h
  obtain ⟨x17, m17, hc17, h⟩ := b2S h
  refine wm_cV (ci := 12) (As := [vI v1]) (st := []) E lk_M_208 rfl im_M_foldName sl_M_foldName hr17 (C_M_foldName (xl X) X.1 v0 v1 μ _ _ hc17) rfl rfl (by rw [hR]; decide) (by rw [hR]; decide) (by decide) dM_isNamed_17 ?_
  refine wm_iload_n E dM_isNamed_20 rfl (j := 1) rfl ?_
  refine wm_iconst (x := 2) E dM_isNamed_21 (by decide) ?_
  refine wm_icmp_ne (tgt := 54) E dM_isNamed_22 (by decide) (fun c22 => ?_) (fun c22 => ?_)
  · have h := (if_neg c22).symm.trans h
    refine wm_iload_n E dM_isNamed_54 rfl (j := 1) rfl ?_
    refine wm_iconst (x := 3) E dM_isNamed_55 (by decide) ?_
    refine wm_icmp_ne (tgt := 121) E dM_isNamed_56 (by decide) (fun c56 => ?_) (fun c56 => ?_)
    · have h := (if_neg c56).symm.trans h
      refine wm_iload_n E dM_isNamed_121 rfl (j := 1) rfl ?_
      refine wm_if_ne (tgt := 142) E dM_isNamed_122 (by decide) (fun c122 => ?_) (fun c122 => ?_)
      · have h := (if_neg c122).symm.trans h
        refine wm_aload_n E dM_isNamed_142 rfl (j := 2) rfl ?_
        refine wm_gI E fd_M_179 h dM_isNamed_143 (fun x143 h => ?_)
        refine wm_iload E dM_isNamed_146 (j := 0) rfl ?_
        refine wm_icmp_lt (tgt := 155) E dM_isNamed_148 (by decide) (fun c148 => ?_) (fun c148 => ?_)
        · have h := (if_pos c148).symm.trans h
          refine wm_iconst (x := 0) E dM_isNamed_155 (by decide) ?_
          refine wm_pick (lv' := [(0, vR v0), (2, vI v2), (4, vI x12)]) [2, 4, 0] rfl ?_
          exact w_M_isNamed_156 E hQ hR hI v0 v2 x12 0 m17 h
        · have h := (if_neg c148).symm.trans h
          refine wm_iconst (x := 1) E dM_isNamed_151 (by decide) ?_
          refine wm_goto (tgt := 156) E dM_isNamed_152 (by decide) ?_
          refine wm_pick (lv' := [(0, vR v0), (2, vI v2), (4, vI x12)]) [2, 4, 0] rfl ?_
          exact w_M_isNamed_156 E hQ hR hI v0 v2 x12 1 m17 h
      · have h := (if_pos c122).symm.trans h
        refine wm_aload_n E dM_isNamed_125 rfl (j := 2) rfl ?_
        refine wm_gI E fd_M_179 h dM_isNamed_126 (fun x126 h => ?_)
        refine wm_iload E dM_isNamed_129 (j := 0) rfl ?_
        refine wm_icmp_ne (tgt := 138) E dM_isNamed_131 (by decide) (fun c131 => ?_) (fun c131 => ?_)
        · have h := (if_neg c131).symm.trans h
          refine wm_iconst (x := 0) E dM_isNamed_138 (by decide) ?_
          refine wm_goto (tgt := 156) E dM_isNamed_139 (by decide) ?_
          refine wm_pick (lv' := [(0, vR v0), (2, vI v2), (4, vI x12)]) [2, 4, 0] rfl ?_
          exact w_M_isNamed_156 E hQ hR hI v0 v2 x12 0 m17 h
        · have h := (if_pos c131).symm.trans h
          refine wm_iconst (x := 1) E dM_isNamed_134 (by decide) ?_
          refine wm_goto (tgt := 156) E dM_isNamed_135 (by decide) ?_
          refine wm_pick (lv' := [(0, vR v0), (2, vI v2), (4, vI x12)]) [2, 4, 0] rfl ?_
          exact w_M_isNamed_156 E hQ hR hI v0 v2 x12 1 m17 h
    · have h := (if_pos c56).symm.trans h
      refine wm_aload_n E dM_isNamed_59 rfl (j := 2) rfl ?_
      obtain ⟨u60, hr60, h⟩ := b1S h
      obtain ⟨x60, m60, hc60, h⟩ := b2S h
      refine wm_cV (ci := 12) (As := []) (st := []) E lk_M_191 rfl im_M_soundOf sl_M_soundOf hr60 (C_M_soundOf (xl X) X.1 v0 m17 _ _ hc60) rfl rfl (by rw [hR]; decide) (by rw [hR]; decide) (by decide) dM_isNamed_60 ?_
      refine wm_istore (lv' := [(5, vI x60), (4, vI x12), (3, vI x5), (0, vR v0), (1, vI v1), (2, vI v2)]) E dM_isNamed_63 (by decide) rfl ?_
      refine wm_aload_n E dM_isNamed_65 rfl (j := 3) rfl ?_
      refine wm_iload E dM_isNamed_66 (j := 1) rfl ?_
      refine wm_pI E fp_M_179 (fun q => by cases q) h dM_isNamed_68 (fun m68 h => ?_)
      refine wm_iconst (x := 0) E dM_isNamed_71 (by decide) ?_
      refine wm_istore (lv' := [(6, vI 0), (5, vI x60), (4, vI x12), (3, vI x5), (0, vR v0), (1, vI v1), (2, vI v2)]) E dM_isNamed_72 (by decide) rfl ?_
      refine wm_pick (lv' := [(0, vR v0), (2, vI v2), (4, vI x12), (5, vI x60), (6, vI 0)]) [4, 6, 2, 1, 0] rfl ?_
      exact w_M_isNamed_74 E hQ hR hI fu v0 v2 x12 x60 0 m68 h
  · have h := (if_pos c22).symm.trans h
    refine wm_aload_n E dM_isNamed_25 rfl (j := 2) rfl ?_
    refine wm_aload_n E dM_isNamed_26 rfl (j := 2) rfl ?_
    refine wm_gR E fd_M_85 h dM_isNamed_27 (fun x27 h => ?_)
    refine wm_bipush (x := 10) E dM_isNamed_30 (by decide) ?_
    refine wm_iload_n E dM_isNamed_32 rfl (j := 4) rfl ?_
    refine wm_imul E dM_isNamed_33 ?_
    refine wm_iload E dM_isNamed_34 (j := 0) rfl ?_
    obtain ⟨u36, hr36, h⟩ := b1S h
    obtain ⟨x36, m36, hc36, h⟩ := b2S h
    refine wm_cV (ci := 12) (As := [vR x27, vI (10 * v2), vI x12]) (st := []) E lk_M_198 rfl im_M_errorsTo sl_M_errorsTo hr36 (C_M_errorsTo (xl X) X.1 v0 x27 (10 * v2) x12 m17 _ _ hc36) rfl rfl (by rw [hR]; decide) (by rw [hR]; decide) (by decide) dM_isNamed_36 ?_
    refine wm_aload_n E dM_isNamed_39 rfl (j := 2) rfl ?_
    refine wm_gR E fd_M_73 h dM_isNamed_40 (fun x40 h => ?_)
    refine wm_iload_n E dM_isNamed_43 rfl (j := 4) rfl ?_
    refine wm_iald (t := 0) E rfl h dM_isNamed_44 (fun x44 h => ?_)
    refine wm_icmp_gt (tgt := 52) E dM_isNamed_45 (by decide) (fun c45 => ?_) (fun c45 => ?_)
    · have h := (if_pos c45).symm.trans h
      refine wm_iconst (x := 0) E dM_isNamed_52 (by decide) ?_
      refine wm_pick (lv' := []) [] rfl ?_
      exact w_M_isNamed_53 E hQ hR hI 0 m36 h
    · have h := (if_neg c45).symm.trans h
      refine wm_iconst (x := 1) E dM_isNamed_48 (by decide) ?_
      refine wm_goto (tgt := 53) E dM_isNamed_49 (by decide) ?_
      refine wm_pick (lv' := []) [] rfl ?_
      exact w_M_isNamed_53 E hQ hR hI 1 m36 h
