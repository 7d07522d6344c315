def LB_1268 (xs : Nat → Int32) (L : Nat) (v1 v3 : Option Nat) (b : Nat) (k23 : Int32 → RS → Mem → Prop) (v4 : Int32)  (ρ : RS) (μ : Mem) : Prop := k23 (v4 + 6) (ρ) μ
set_option maxHeartbeats 8000000 in
set_option maxRecDepth 100000 in
theorem lw_1268 {X : CX} (E : EV X code 7 "PlaceFinderLaw" ret) {sb : Nat} {xs : Nat → Int32} {L : Nat} {v1 v3 : Option Nat} {b : Nat} (hS : SX X sb L xs) (hR : xR X = room_1) (hLR : LR X) (hLF : LF (xl X)) (kc ks : Nat) (hkc : kc ≤ 601024) (hks : ks ≤ 7293034) (k23 : Int32 → RS → Mem → Prop) (hk : ∀ (v4 : Int32) (ρ : RS) (μ : Mem), k23 v4 ρ μ → WM X 7 23 [(0, vR (some sb)), (1, vR v1), (2, vR (some b)), (3, vR v3), (4, vI v4)] [] kc ks (ov b ρ μ)) (v4 : Int32)  (ρ : RS) (μ : Mem) (h : LB_1268 xs L v1 v3 b k23 v4 ρ μ) : WM X 7 1268 [(0, vR (some sb)), (1, vR v1), (2, vR (some b)), (3, vR v3), (4, vI v4)] [] kc ks (ov b ρ μ) := by
  have h : k23 (v4 + 6) (ρ) μ := h
  refine wm_iinc (lv' := [(4, vI (v4 + 6)), (0, vR (some sb)), (1, vR v1), (2, vR (some b)), (3, vR v3)]) (d := 6) E dL_law_1268 (by decide) (j := 4) rfl (by decide) rfl ?_
  refine wm_goto (tgt := 23) E dL_law_1271 (by decide) ?_
  refine wm_pick (lv' := [(0, vR (some sb)), (1, vR v1), (2, vR (some b)), (3, vR v3), (4, vI (v4 + 6))]) [1, 2, 3, 4, 0] rfl ?_
  exact hk (v4 + 6) (ρ) μ h
def LB_189 (xs : Nat → Int32) (L : Nat) (v1 v3 : Option Nat) (b : Nat) (k23 : Int32 → RS → Mem → Prop) (v4 : Int32)  (ρ : RS) (μ : Mem) : Prop := LB_1268 xs L v1 v3 b k23 v4 (ρ) μ
set_option maxHeartbeats 8000000 in
set_option maxRecDepth 100000 in
theorem lw_189 {X : CX} (E : EV X code 7 "PlaceFinderLaw" ret) {sb : Nat} {xs : Nat → Int32} {L : Nat} {v1 v3 : Option Nat} {b : Nat} (hS : SX X sb L xs) (hR : xR X = room_1) (hLR : LR X) (hLF : LF (xl X)) (kc ks : Nat) (hkc : kc ≤ 601024) (hks : ks ≤ 7293034) (k23 : Int32 → RS → Mem → Prop) (hk : ∀ (v4 : Int32) (ρ : RS) (μ : Mem), k23 v4 ρ μ → WM X 7 23 [(0, vR (some sb)), (1, vR v1), (2, vR (some b)), (3, vR v3), (4, vI v4)] [] kc ks (ov b ρ μ)) (v4 : Int32)  (ρ : RS) (μ : Mem) (h : LB_189 xs L v1 v3 b k23 v4 ρ μ) : WM X 7 189 [(0, vR (some sb)), (1, vR v1), (2, vR (some b)), (3, vR v3), (4, vI v4)] [] kc ks (ov b ρ μ) := by
  have h : LB_1268 xs L v1 v3 b k23 v4 (ρ) μ := h
  refine wm_goto (tgt := 1268) E dL_law_189 (by decide) ?_
  refine wm_pick (lv' := [(0, vR (some sb)), (1, vR v1), (2, vR (some b)), (3, vR v3), (4, vI v4)]) [0, 1, 2, 3, 4] rfl ?_
  exact lw_1268 E hS hR hLR hLF kc ks hkc hks k23 hk v4 (ρ) μ h
def LB_147 (xs : Nat → Int32) (L : Nat) (v1 v3 : Option Nat) (b : Nat) (k23 : Int32 → RS → Mem → Prop) (v4 : Int32) (s0 : Int32) (ρ : RS) (μ : Mem) : Prop := (¬ ((v4 + 1 : Int32) < 0 ∨ L ≤ ((v4 + 1 : Int32)).toNatClampNeg)) ∧ (∃ x156 ρ156, R_M_place (xs ((v4 + 1 : Int32)).toNatClampNeg) ρ = some (x156, ρ156) ∧ mW μ ≤ b ∧ (∃ x162, R_M_thrown  ρ156 = some x162 ∧ (((x162 = s0) → (((s0 = 0) → (∃ x179, aL (ov b ρ156 μ) v3 1 0 = some x179 ∧ ((((lg_cmp x179 ((x156 : Int32).toInt64)) = 0) → (LB_189 xs L v1 v3 b k23 v4 (ρ156) μ)) ∧ (¬ ((lg_cmp x179 ((x156 : Int32).toInt64)) = 0) → ((0 : Int32) = 1))))) ∧ (¬ (s0 = 0) → (LB_189 xs L v1 v3 b k23 v4 (ρ156) μ)))) ∧ (¬ (x162 = s0) → ((0 : Int32) = 1)))))
set_option maxHeartbeats 8000000 in
set_option maxRecDepth 100000 in
theorem lw_147 {X : CX} (E : EV X code 7 "PlaceFinderLaw" ret) {sb : Nat} {xs : Nat → Int32} {L : Nat} {v1 v3 : Option Nat} {b : Nat} (hS : SX X sb L xs) (hR : xR X = room_1) (hLR : LR X) (hLF : LF (xl X)) (kc ks : Nat) (hkc : kc ≤ 601024) (hks : ks ≤ 7293034) (k23 : Int32 → RS → Mem → Prop) (hk : ∀ (v4 : Int32) (ρ : RS) (μ : Mem), k23 v4 ρ μ → WM X 7 23 [(0, vR (some sb)), (1, vR v1), (2, vR (some b)), (3, vR v3), (4, vI v4)] [] kc ks (ov b ρ μ)) (v4 : Int32) (s0 : Int32) (ρ : RS) (μ : Mem) (h : LB_147 xs L v1 v3 b k23 v4 s0 ρ μ) : WM X 7 147 [(0, vR (some sb)), (1, vR v1), (2, vR (some b)), (3, vR v3), (4, vI v4)] [vI s0] kc ks (ov b ρ μ) := by
  have h : (¬ ((v4 + 1 : Int32) < 0 ∨ L ≤ ((v4 + 1 : Int32)).toNatClampNeg)) ∧ (∃ x156 ρ156, R_M_place (xs ((v4 + 1 : Int32)).toNatClampNeg) ρ = some (x156, ρ156) ∧ mW μ ≤ b ∧ (∃ x162, R_M_thrown  ρ156 = some x162 ∧ (((x162 = s0) → (((s0 = 0) → (∃ x179, aL (ov b ρ156 μ) v3 1 0 = some x179 ∧ ((((lg_cmp x179 ((x156 : Int32).toInt64)) = 0) → (LB_189 xs L v1 v3 b k23 v4 (ρ156) μ)) ∧ (¬ ((lg_cmp x179 ((x156 : Int32).toInt64)) = 0) → ((0 : Int32) = 1))))) ∧ (¬ (s0 = 0) → (LB_189 xs L v1 v3 b k23 v4 (ρ156) μ)))) ∧ (¬ (x162 = s0) → ((0 : Int32) = 1))))) := h
  refine wm_istore (lv' := [(5, vI s0), (0, vR (some sb)), (1, vR v1), (2, vR (some b)), (3, vR v3), (4, vI v4)]) E dL_law_147 (by decide) rfl ?_
  refine wm_aload_n E dL_law_149 rfl (j := 3) rfl ?_
  refine wm_aload_n E dL_law_150 rfl (j := 1) rfl ?_
  refine wm_iload E dL_law_151 (j := 5) rfl ?_
  refine wm_iconst (x := 1) E dL_law_153 (by decide) ?_
  refine wm_iadd E dL_law_154 ?_
  obtain ⟨hi155, h⟩ := h
  refine wm_sld E hS hi155 dL_law_155 ?_
  obtain ⟨x156, ρ156, hc156, hW156, h⟩ := h
  refine wm_cV (ci := 12) (As := [vI (xs ((v4 + 1 : Int32)).toNatClampNeg)]) (st := []) E lk_L_84 rfl im_M_place sl_M_place (ov_rc _ _ _) (RC_M_place (xl X) X.1 b ρ μ hW156 (xs ((v4 + 1 : Int32)).toNatClampNeg) _ _ hc156) rfl rfl (by rw [hR]; decide) (by rw [hR]; exact ⟨show kc + 0 ≤ 601024 by omega, show ks + 0 ≤ 7293034 by omega⟩) (Nat.le_of_ble_eq_true rfl) dL_law_156 ?_
  refine wm_istore (lv' := [(6, vI x156), (5, vI s0), (0, vR (some sb)), (1, vR v1), (2, vR (some b)), (3, vR v3), (4, vI v4)]) E dL_law_159 (by decide) rfl ?_
  refine wm_aload_n E dL_law_161 rfl (j := 4) rfl ?_
  obtain ⟨x162, hc162, h⟩ := h
  refine wm_cV (ci := 12) (As := []) (st := []) E lk_L_85 rfl im_M_thrown sl_M_thrown (ov_rc _ _ _) (RC_M_thrown (xl X) X.1 b ρ156 μ  _ hc162) rfl rfl (by rw [hR]; decide) (by rw [hR]; exact ⟨show kc + 0 ≤ 601024 by omega, show ks + 0 ≤ 7293034 by omega⟩) (Nat.le_of_ble_eq_true rfl) dL_law_162 ?_
  refine wm_iload E dL_law_165 (j := 1) rfl ?_
  refine wm_icmp_eq (tgt := 172) E dL_law_167 (by decide) (fun c167 => ?_) (fun c167 => ?_)
  · have h := h.1 c167
    refine wm_iload E dL_law_172 (j := 1) rfl ?_
    refine wm_if_ne (tgt := 189) E dL_law_174 (by decide) (fun c174 => ?_) (fun c174 => ?_)
    · have h := h.2 c174
      refine wm_pick (lv' := [(0, vR (some sb)), (1, vR v1), (2, vR (some b)), (3, vR v3), (4, vI v4)]) [2, 3, 4, 5, 6] rfl ?_
      exact lw_189 E hS hR hLR hLF kc ks hkc hks k23 hk v4 (ρ156) μ h
    · have h := h.1 c174
      refine wm_aload_n E dL_law_177 rfl (j := 5) rfl ?_
      refine wm_iconst (x := 0) E dL_law_178 (by decide) ?_
      obtain ⟨x179, hl179, h⟩ := h
      refine wm_lald (t := 1) (β := Int64) (res := x179) (F := some) E rfl (by rw [hl179]; rfl) dL_law_179 (fun y179 hy179 => ?_)
      cases hy179
      refine wm_iload E dL_law_180 (j := 0) rfl ?_
      refine wm_i2l E dL_law_182 ?_
      refine wm_lcmp E dL_law_183 ?_
      refine wm_if_eq (tgt := 189) E dL_law_184 (by decide) (fun c184 => ?_) (fun c184 => ?_)
      · have h := h.1 c184
        refine wm_pick (lv' := [(0, vR (some sb)), (1, vR v1), (2, vR (some b)), (3, vR v3), (4, vI v4)]) [2, 3, 4, 5, 6] rfl ?_
        exact lw_189 E hS hR hLR hLF kc ks hkc hks k23 hk v4 (ρ156) μ h
      · have h := h.2 c184
        refine wm_iconst (x := 0) E dL_law_187 (by decide) ?_
        exact wm_lawret hLR h (by omega) (by omega) dL_law_188
  · have h := h.2 c167
    refine wm_iconst (x := 0) E dL_law_170 (by decide) ?_
    exact wm_lawret hLR h (by omega) (by omega) dL_law_171
def LB_257 (xs : Nat → Int32) (L : Nat) (v1 v3 : Option Nat) (b : Nat) (k23 : Int32 → RS → Mem → Prop) (v4 : Int32)  (ρ : RS) (μ : Mem) : Prop := LB_1268 xs L v1 v3 b k23 v4 (ρ) μ
set_option maxHeartbeats 8000000 in
set_option maxRecDepth 100000 in
theorem lw_257 {X : CX} (E : EV X code 7 "PlaceFinderLaw" ret) {sb : Nat} {xs : Nat → Int32} {L : Nat} {v1 v3 : Option Nat} {b : Nat} (hS : SX X sb L xs) (hR : xR X = room_1) (hLR : LR X) (hLF : LF (xl X)) (kc ks : Nat) (hkc : kc ≤ 601024) (hks : ks ≤ 7293034) (k23 : Int32 → RS → Mem → Prop) (hk : ∀ (v4 : Int32) (ρ : RS) (μ : Mem), k23 v4 ρ μ → WM X 7 23 [(0, vR (some sb)), (1, vR v1), (2, vR (some b)), (3, vR v3), (4, vI v4)] [] kc ks (ov b ρ μ)) (v4 : Int32)  (ρ : RS) (μ : Mem) (h : LB_257 xs L v1 v3 b k23 v4 ρ μ) : WM X 7 257 [(0, vR (some sb)), (1, vR v1), (2, vR (some b)), (3, vR v3), (4, vI v4)] [] kc ks (ov b ρ μ) := by
  have h : LB_1268 xs L v1 v3 b k23 v4 (ρ) μ := h
  refine wm_goto (tgt := 1268) E dL_law_257 (by decide) ?_
  refine wm_pick (lv' := [(0, vR (some sb)), (1, vR v1), (2, vR (some b)), (3, vR v3), (4, vI v4)]) [0, 1, 2, 3, 4] rfl ?_
  exact lw_1268 E hS hR hLR hLF kc ks hkc hks k23 hk v4 (ρ) μ h
def LB_209 (xs : Nat → Int32) (L : Nat) (v1 v3 : Option Nat) (b : Nat) (k23 : Int32 → RS → Mem → Prop) (v4 : Int32) (s0 : Int32) (ρ : RS) (μ : Mem) : Prop := (¬ ((v4 + 1 : Int32) < 0 ∨ L ≤ ((v4 + 1 : Int32)).toNatClampNeg)) ∧ ((¬ ((v4 + 2 : Int32) < 0 ∨ L ≤ ((v4 + 2 : Int32)).toNatClampNeg)) ∧ (∃ x224 ρ224, R_M_corner (xs ((v4 + 1 : Int32)).toNatClampNeg) (xs ((v4 + 2 : Int32)).toNatClampNeg) ρ = some (x224, ρ224) ∧ mW μ ≤ b ∧ (∃ x230, R_M_thrown  ρ224 = some x230 ∧ (((x230 = s0) → (((s0 = 0) → (∃ x247, aL (ov b ρ224 μ) v3 1 0 = some x247 ∧ ((((lg_cmp x247 ((x224 : Int32).toInt64)) = 0) → (LB_257 xs L v1 v3 b k23 v4 (ρ224) μ)) ∧ (¬ ((lg_cmp x247 ((x224 : Int32).toInt64)) = 0) → ((0 : Int32) = 1))))) ∧ (¬ (s0 = 0) → (LB_257 xs L v1 v3 b k23 v4 (ρ224) μ)))) ∧ (¬ (x230 = s0) → ((0 : Int32) = 1))))))
set_option maxHeartbeats 8000000 in
set_option maxRecDepth 100000 in
theorem lw_209 {X : CX} (E : EV X code 7 "PlaceFinderLaw" ret) {sb : Nat} {xs : Nat → Int32} {L : Nat} {v1 v3 : Option Nat} {b : Nat} (hS : SX X sb L xs) (hR : xR X = room_1) (hLR : LR X) (hLF : LF (xl X)) (kc ks : Nat) (hkc : kc ≤ 601024) (hks : ks ≤ 7293034) (k23 : Int32 → RS → Mem → Prop) (hk : ∀ (v4 : Int32) (ρ : RS) (μ : Mem), k23 v4 ρ μ → WM X 7 23 [(0, vR (some sb)), (1, vR v1), (2, vR (some b)), (3, vR v3), (4, vI v4)] [] kc ks (ov b ρ μ)) (v4 : Int32) (s0 : Int32) (ρ : RS) (μ : Mem) (h : LB_209 xs L v1 v3 b k23 v4 s0 ρ μ) : WM X 7 209 [(0, vR (some sb)), (1, vR v1), (2, vR (some b)), (3, vR v3), (4, vI v4)] [vI s0] kc ks (ov b ρ μ) := by
  have h : (¬ ((v4 + 1 : Int32) < 0 ∨ L ≤ ((v4 + 1 : Int32)).toNatClampNeg)) ∧ ((¬ ((v4 + 2 : Int32) < 0 ∨ L ≤ ((v4 + 2 : Int32)).toNatClampNeg)) ∧ (∃ x224 ρ224, R_M_corner (xs ((v4 + 1 : Int32)).toNatClampNeg) (xs ((v4 + 2 : Int32)).toNatClampNeg) ρ = some (x224, ρ224) ∧ mW μ ≤ b ∧ (∃ x230, R_M_thrown  ρ224 = some x230 ∧ (((x230 = s0) → (((s0 = 0) → (∃ x247, aL (ov b ρ224 μ) v3 1 0 = some x247 ∧ ((((lg_cmp x247 ((x224 : Int32).toInt64)) = 0) → (LB_257 xs L v1 v3 b k23 v4 (ρ224) μ)) ∧ (¬ ((lg_cmp x247 ((x224 : Int32).toInt64)) = 0) → ((0 : Int32) = 1))))) ∧ (¬ (s0 = 0) → (LB_257 xs L v1 v3 b k23 v4 (ρ224) μ)))) ∧ (¬ (x230 = s0) → ((0 : Int32) = 1)))))) := h
  refine wm_istore (lv' := [(5, vI s0), (0, vR (some sb)), (1, vR v1), (2, vR (some b)), (3, vR v3), (4, vI v4)]) E dL_law_209 (by decide) rfl ?_
  refine wm_aload_n E dL_law_211 rfl (j := 3) rfl ?_
  refine wm_aload_n E dL_law_212 rfl (j := 1) rfl ?_
  refine wm_iload E dL_law_213 (j := 5) rfl ?_
  refine wm_iconst (x := 1) E dL_law_215 (by decide) ?_
  refine wm_iadd E dL_law_216 ?_
  obtain ⟨hi217, h⟩ := h
  refine wm_sld E hS hi217 dL_law_217 ?_
  refine wm_aload_n E dL_law_218 rfl (j := 1) rfl ?_
  refine wm_iload E dL_law_219 (j := 5) rfl ?_
  refine wm_iconst (x := 2) E dL_law_221 (by decide) ?_
  refine wm_iadd E dL_law_222 ?_
  obtain ⟨hi223, h⟩ := h
  refine wm_sld E hS hi223 dL_law_223 ?_
  obtain ⟨x224, ρ224, hc224, hW224, h⟩ := h
  refine wm_cV (ci := 12) (As := [vI (xs ((v4 + 1 : Int32)).toNatClampNeg), vI (xs ((v4 + 2 : Int32)).toNatClampNeg)]) (st := []) E lk_L_92 rfl im_M_corner sl_M_corner (ov_rc _ _ _) (RC_M_corner (xl X) X.1 b ρ μ hW224 (xs ((v4 + 1 : Int32)).toNatClampNeg) (xs ((v4 + 2 : Int32)).toNatClampNeg) _ _ hc224) rfl rfl (by rw [hR]; decide) (by rw [hR]; exact ⟨show kc + 0 ≤ 601024 by omega, show ks + 0 ≤ 7293034 by omega⟩) (Nat.le_of_ble_eq_true rfl) dL_law_224 ?_
  refine wm_istore (lv' := [(6, vI x224), (5, vI s0), (0, vR (some sb)), (1, vR v1), (2, vR (some b)), (3, vR v3), (4, vI v4)]) E dL_law_227 (by decide) rfl ?_
  refine wm_aload_n E dL_law_229 rfl (j := 4) rfl ?_
  obtain ⟨x230, hc230, h⟩ := h
  refine wm_cV (ci := 12) (As := []) (st := []) E lk_L_85 rfl im_M_thrown sl_M_thrown (ov_rc _ _ _) (RC_M_thrown (xl X) X.1 b ρ224 μ  _ hc230) rfl rfl (by rw [hR]; decide) (by rw [hR]; exact ⟨show kc + 0 ≤ 601024 by omega, show ks + 0 ≤ 7293034 by omega⟩) (Nat.le_of_ble_eq_true rfl) dL_law_230 ?_
  refine wm_iload E dL_law_233 (j := 1) rfl ?_
  refine wm_icmp_eq (tgt := 240) E dL_law_235 (by decide) (fun c235 => ?_) (fun c235 => ?_)
  · have h := h.1 c235
    refine wm_iload E dL_law_240 (j := 1) rfl ?_
    refine wm_if_ne (tgt := 257) E dL_law_242 (by decide) (fun c242 => ?_) (fun c242 => ?_)
    · have h := h.2 c242
      refine wm_pick (lv' := [(0, vR (some sb)), (1, vR v1), (2, vR (some b)), (3, vR v3), (4, vI v4)]) [2, 3, 4, 5, 6] rfl ?_
      exact lw_257 E hS hR hLR hLF kc ks hkc hks k23 hk v4 (ρ224) μ h
    · have h := h.1 c242
      refine wm_aload_n E dL_law_245 rfl (j := 5) rfl ?_
      refine wm_iconst (x := 0) E dL_law_246 (by decide) ?_
      obtain ⟨x247, hl247, h⟩ := h
      refine wm_lald (t := 1) (β := Int64) (res := x247) (F := some) E rfl (by rw [hl247]; rfl) dL_law_247 (fun y247 hy247 => ?_)
      cases hy247
      refine wm_iload E dL_law_248 (j := 0) rfl ?_
      refine wm_i2l E dL_law_250 ?_
      refine wm_lcmp E dL_law_251 ?_
      refine wm_if_eq (tgt := 257) E dL_law_252 (by decide) (fun c252 => ?_) (fun c252 => ?_)
      · have h := h.1 c252
        refine wm_pick (lv' := [(0, vR (some sb)), (1, vR v1), (2, vR (some b)), (3, vR v3), (4, vI v4)]) [2, 3, 4, 5, 6] rfl ?_
        exact lw_257 E hS hR hLR hLF kc ks hkc hks k23 hk v4 (ρ224) μ h
      · have h := h.2 c252
        refine wm_iconst (x := 0) E dL_law_255 (by decide) ?_
        exact wm_lawret hLR h (by omega) (by omega) dL_law_256
  · have h := h.2 c235
    refine wm_iconst (x := 0) E dL_law_238 (by decide) ?_
    exact wm_lawret hLR h (by omega) (by omega) dL_law_239
def LB_276 (xs : Nat → Int32) (L : Nat) (v1 v3 : Option Nat) (b : Nat) (k23 : Int32 → RS → Mem → Prop) (v4 : Int32) (s0 : Int32) (ρ : RS) (μ : Mem) : Prop := (¬ ((v4 + 1 : Int32) < 0 ∨ L ≤ ((v4 + 1 : Int32)).toNatClampNeg)) ∧ ((¬ ((v4 + 2 : Int32) < 0 ∨ L ≤ ((v4 + 2 : Int32)).toNatClampNeg)) ∧ (∃ x291 ρ291, R_M_shape (xs ((v4 + 1 : Int32)).toNatClampNeg) (xs ((v4 + 2 : Int32)).toNatClampNeg) ρ = some (x291, ρ291) ∧ mW μ ≤ b ∧ (∃ x295, R_M_thrown  ρ291 = some x295 ∧ (((x295 = s0) → (LB_1268 xs L v1 v3 b k23 v4 (ρ291) μ)) ∧ (¬ (x295 = s0) → ((0 : Int32) = 1))))))
set_option maxHeartbeats 8000000 in
set_option maxRecDepth 100000 in
theorem lw_276 {X : CX} (E : EV X code 7 "PlaceFinderLaw" ret) {sb : Nat} {xs : Nat → Int32} {L : Nat} {v1 v3 : Option Nat} {b : Nat} (hS : SX X sb L xs) (hR : xR X = room_1) (hLR : LR X) (hLF : LF (xl X)) (kc ks : Nat) (hkc : kc ≤ 601024) (hks : ks ≤ 7293034) (k23 : Int32 → RS → Mem → Prop) (hk : ∀ (v4 : Int32) (ρ : RS) (μ : Mem), k23 v4 ρ μ → WM X 7 23 [(0, vR (some sb)), (1, vR v1), (2, vR (some b)), (3, vR v3), (4, vI v4)] [] kc ks (ov b ρ μ)) (v4 : Int32) (s0 : Int32) (ρ : RS) (μ : Mem) (h : LB_276 xs L v1 v3 b k23 v4 s0 ρ μ) : WM X 7 276 [(0, vR (some sb)), (1, vR v1), (2, vR (some b)), (3, vR v3), (4, vI v4)] [vI s0] kc ks (ov b ρ μ) := by
  have h : (¬ ((v4 + 1 : Int32) < 0 ∨ L ≤ ((v4 + 1 : Int32)).toNatClampNeg)) ∧ ((¬ ((v4 + 2 : Int32) < 0 ∨ L ≤ ((v4 + 2 : Int32)).toNatClampNeg)) ∧ (∃ x291 ρ291, R_M_shape (xs ((v4 + 1 : Int32)).toNatClampNeg) (xs ((v4 + 2 : Int32)).toNatClampNeg) ρ = some (x291, ρ291) ∧ mW μ ≤ b ∧ (∃ x295, R_M_thrown  ρ291 = some x295 ∧ (((x295 = s0) → (LB_1268 xs L v1 v3 b k23 v4 (ρ291) μ)) ∧ (¬ (x295 = s0) → ((0 : Int32) = 1)))))) := h
  refine wm_istore (lv' := [(5, vI s0), (0, vR (some sb)), (1, vR v1), (2, vR (some b)), (3, vR v3), (4, vI v4)]) E dL_law_276 (by decide) rfl ?_
  refine wm_aload_n E dL_law_278 rfl (j := 3) rfl ?_
  refine wm_aload_n E dL_law_279 rfl (j := 1) rfl ?_
  refine wm_iload E dL_law_280 (j := 5) rfl ?_
  refine wm_iconst (x := 1) E dL_law_282 (by decide) ?_
  refine wm_iadd E dL_law_283 ?_
  obtain ⟨hi284, h⟩ := h
  refine wm_sld E hS hi284 dL_law_284 ?_
  refine wm_aload_n E dL_law_285 rfl (j := 1) rfl ?_
  refine wm_iload E dL_law_286 (j := 5) rfl ?_
  refine wm_iconst (x := 2) E dL_law_288 (by decide) ?_
  refine wm_iadd E dL_law_289 ?_
  obtain ⟨hi290, h⟩ := h
  refine wm_sld E hS hi290 dL_law_290 ?_
  obtain ⟨x291, ρ291, hc291, hW291, h⟩ := h
  refine wm_cV (ci := 12) (As := [vI (xs ((v4 + 1 : Int32)).toNatClampNeg), vI (xs ((v4 + 2 : Int32)).toNatClampNeg)]) (st := []) E lk_L_96 rfl im_M_shape sl_M_shape (ov_rc _ _ _) (RC_M_shape (xl X) X.1 b ρ μ hW291 (xs ((v4 + 1 : Int32)).toNatClampNeg) (xs ((v4 + 2 : Int32)).toNatClampNeg) _ _ hc291) rfl rfl (by rw [hR]; decide) (by rw [hR]; exact ⟨show kc + 0 ≤ 601024 by omega, show ks + 0 ≤ 7293034 by omega⟩) (Nat.le_of_ble_eq_true rfl) dL_law_291 ?_
  refine wm_aload_n E dL_law_294 rfl (j := 3) rfl ?_
  obtain ⟨x295, hc295, h⟩ := h
  refine wm_cV (ci := 12) (As := []) (st := []) E lk_L_85 rfl im_M_thrown sl_M_thrown (ov_rc _ _ _) (RC_M_thrown (xl X) X.1 b ρ291 μ  _ hc295) rfl rfl (by rw [hR]; decide) (by rw [hR]; exact ⟨show kc + 0 ≤ 601024 by omega, show ks + 0 ≤ 7293034 by omega⟩) (Nat.le_of_ble_eq_true rfl) dL_law_295 ?_
  refine wm_iload E dL_law_298 (j := 0) rfl ?_
  refine wm_icmp_eq (tgt := 305) E dL_law_300 (by decide) (fun c300 => ?_) (fun c300 => ?_)
  · have h := h.1 c300
    refine wm_goto (tgt := 1268) E dL_law_305 (by decide) ?_
    refine wm_pick (lv' := [(0, vR (some sb)), (1, vR v1), (2, vR (some b)), (3, vR v3), (4, vI v4)]) [1, 2, 3, 4, 5] rfl ?_
    exact lw_1268 E hS hR hLR hLF kc ks hkc hks k23 hk v4 (ρ291) μ h
  · have h := h.2 c300
    refine wm_iconst (x := 0) E dL_law_303 (by decide) ?_
    exact wm_lawret hLR h (by omega) (by omega) dL_law_304
def LB_366 (xs : Nat → Int32) (L : Nat) (v1 v3 : Option Nat) (b : Nat) (k23 : Int32 → RS → Mem → Prop) (v4 : Int32) (s0 : Int32) (ρ : RS) (μ : Mem) : Prop := (¬ ((v4 + 1 : Int32) < 0 ∨ L ≤ ((v4 + 1 : Int32)).toNatClampNeg)) ∧ ((¬ ((v4 + 2 : Int32) < 0 ∨ L ≤ ((v4 + 2 : Int32)).toNatClampNeg)) ∧ ((¬ ((v4 + 3 : Int32) < 0 ∨ L ≤ ((v4 + 3 : Int32)).toNatClampNeg)) ∧ (∃ x387 ρ387, R_M_name (xs ((v4 + 1 : Int32)).toNatClampNeg) (xs ((v4 + 2 : Int32)).toNatClampNeg) (xs ((v4 + 3 : Int32)).toNatClampNeg) ρ = some (x387, ρ387) ∧ mW μ ≤ b ∧ (∃ x391, R_M_thrown  ρ387 = some x391 ∧ (((x391 = s0) → (LB_1268 xs L v1 v3 b k23 v4 (ρ387) μ)) ∧ (¬ (x391 = s0) → ((0 : Int32) = 1)))))))
set_option maxHeartbeats 8000000 in
set_option maxRecDepth 100000 in
theorem lw_366 {X : CX} (E : EV X code 7 "PlaceFinderLaw" ret) {sb : Nat} {xs : Nat → Int32} {L : Nat} {v1 v3 : Option Nat} {b : Nat} (hS : SX X sb L xs) (hR : xR X = room_1) (hLR : LR X) (hLF : LF (xl X)) (kc ks : Nat) (hkc : kc ≤ 601024) (hks : ks ≤ 7293034) (k23 : Int32 → RS → Mem → Prop) (hk : ∀ (v4 : Int32) (ρ : RS) (μ : Mem), k23 v4 ρ μ → WM X 7 23 [(0, vR (some sb)), (1, vR v1), (2, vR (some b)), (3, vR v3), (4, vI v4)] [] kc ks (ov b ρ μ)) (v4 : Int32) (s0 : Int32) (ρ : RS) (μ : Mem) (h : LB_366 xs L v1 v3 b k23 v4 s0 ρ μ) : WM X 7 366 [(0, vR (some sb)), (1, vR v1), (2, vR (some b)), (3, vR v3), (4, vI v4)] [vI s0] kc ks (ov b ρ μ) := by
  have h : (¬ ((v4 + 1 : Int32) < 0 ∨ L ≤ ((v4 + 1 : Int32)).toNatClampNeg)) ∧ ((¬ ((v4 + 2 : Int32) < 0 ∨ L ≤ ((v4 + 2 : Int32)).toNatClampNeg)) ∧ ((¬ ((v4 + 3 : Int32) < 0 ∨ L ≤ ((v4 + 3 : Int32)).toNatClampNeg)) ∧ (∃ x387 ρ387, R_M_name (xs ((v4 + 1 : Int32)).toNatClampNeg) (xs ((v4 + 2 : Int32)).toNatClampNeg) (xs ((v4 + 3 : Int32)).toNatClampNeg) ρ = some (x387, ρ387) ∧ mW μ ≤ b ∧ (∃ x391, R_M_thrown  ρ387 = some x391 ∧ (((x391 = s0) → (LB_1268 xs L v1 v3 b k23 v4 (ρ387) μ)) ∧ (¬ (x391 = s0) → ((0 : Int32) = 1))))))) := h
  refine wm_istore (lv' := [(5, vI s0), (0, vR (some sb)), (1, vR v1), (2, vR (some b)), (3, vR v3), (4, vI v4)]) E dL_law_366 (by decide) rfl ?_
  refine wm_aload_n E dL_law_368 rfl (j := 3) rfl ?_
  refine wm_aload_n E dL_law_369 rfl (j := 1) rfl ?_
  refine wm_iload E dL_law_370 (j := 5) rfl ?_
  refine wm_iconst (x := 1) E dL_law_372 (by decide) ?_
  refine wm_iadd E dL_law_373 ?_
  obtain ⟨hi374, h⟩ := h
  refine wm_sld E hS hi374 dL_law_374 ?_
  refine wm_aload_n E dL_law_375 rfl (j := 1) rfl ?_
  refine wm_iload E dL_law_376 (j := 5) rfl ?_
  refine wm_iconst (x := 2) E dL_law_378 (by decide) ?_
  refine wm_iadd E dL_law_379 ?_
  obtain ⟨hi380, h⟩ := h
  refine wm_sld E hS hi380 dL_law_380 ?_
  refine wm_aload_n E dL_law_381 rfl (j := 1) rfl ?_
  refine wm_iload E dL_law_382 (j := 5) rfl ?_
  refine wm_iconst (x := 3) E dL_law_384 (by decide) ?_
  refine wm_iadd E dL_law_385 ?_
  obtain ⟨hi386, h⟩ := h
  refine wm_sld E hS hi386 dL_law_386 ?_
  obtain ⟨x387, ρ387, hc387, hW387, h⟩ := h
  refine wm_cV (ci := 12) (As := [vI (xs ((v4 + 1 : Int32)).toNatClampNeg), vI (xs ((v4 + 2 : Int32)).toNatClampNeg), vI (xs ((v4 + 3 : Int32)).toNatClampNeg)]) (st := []) E lk_L_109 rfl im_M_name sl_M_name (ov_rc _ _ _) (RC_M_name (xl X) X.1 b ρ μ hW387 (xs ((v4 + 1 : Int32)).toNatClampNeg) (xs ((v4 + 2 : Int32)).toNatClampNeg) (xs ((v4 + 3 : Int32)).toNatClampNeg) _ _ hc387) rfl rfl (by rw [hR]; decide) (by rw [hR]; exact ⟨show kc + 0 ≤ 601024 by omega, show ks + 0 ≤ 7293034 by omega⟩) (Nat.le_of_ble_eq_true rfl) dL_law_387 ?_
  refine wm_aload_n E dL_law_390 rfl (j := 3) rfl ?_
  obtain ⟨x391, hc391, h⟩ := h
  refine wm_cV (ci := 12) (As := []) (st := []) E lk_L_85 rfl im_M_thrown sl_M_thrown (ov_rc _ _ _) (RC_M_thrown (xl X) X.1 b ρ387 μ  _ hc391) rfl rfl (by rw [hR]; decide) (by rw [hR]; exact ⟨show kc + 0 ≤ 601024 by omega, show ks + 0 ≤ 7293034 by omega⟩) (Nat.le_of_ble_eq_true rfl) dL_law_391 ?_
  refine wm_iload E dL_law_394 (j := 0) rfl ?_
  refine wm_icmp_eq (tgt := 401) E dL_law_396 (by decide) (fun c396 => ?_) (fun c396 => ?_)
  · have h := h.1 c396
    refine wm_goto (tgt := 1268) E dL_law_401 (by decide) ?_
    refine wm_pick (lv' := [(0, vR (some sb)), (1, vR v1), (2, vR (some b)), (3, vR v3), (4, vI v4)]) [1, 2, 3, 4, 5] rfl ?_
    exact lw_1268 E hS hR hLR hLF kc ks hkc hks k23 hk v4 (ρ387) μ h
  · have h := h.2 c396
    refine wm_iconst (x := 0) E dL_law_399 (by decide) ?_
    exact wm_lawret hLR h (by omega) (by omega) dL_law_400
def LB_432 (xs : Nat → Int32) (L : Nat) (v1 v3 : Option Nat) (b : Nat) (k23 : Int32 → RS → Mem → Prop) (v4 : Int32) (s0 : Int32) (ρ : RS) (μ : Mem) : Prop := (¬ ((v4 + 1 : Int32) < 0 ∨ L ≤ ((v4 + 1 : Int32)).toNatClampNeg)) ∧ ((¬ ((v4 + 2 : Int32) < 0 ∨ L ≤ ((v4 + 2 : Int32)).toNatClampNeg)) ∧ ((¬ ((v4 + 3 : Int32) < 0 ∨ L ≤ ((v4 + 3 : Int32)).toNatClampNeg)) ∧ ((¬ ((v4 + 4 : Int32) < 0 ∨ L ≤ ((v4 + 4 : Int32)).toNatClampNeg)) ∧ (∃ x459 ρ459, R_M_parent (xs ((v4 + 1 : Int32)).toNatClampNeg) (xs ((v4 + 2 : Int32)).toNatClampNeg) (xs ((v4 + 3 : Int32)).toNatClampNeg) (xs ((v4 + 4 : Int32)).toNatClampNeg) ρ = some (x459, ρ459) ∧ mW μ ≤ b ∧ (∃ x463, R_M_thrown  ρ459 = some x463 ∧ (((x463 = s0) → (LB_1268 xs L v1 v3 b k23 v4 (ρ459) μ)) ∧ (¬ (x463 = s0) → ((0 : Int32) = 1))))))))
set_option maxHeartbeats 8000000 in
set_option maxRecDepth 100000 in
theorem lw_432 {X : CX} (E : EV X code 7 "PlaceFinderLaw" ret) {sb : Nat} {xs : Nat → Int32} {L : Nat} {v1 v3 : Option Nat} {b : Nat} (hS : SX X sb L xs) (hR : xR X = room_1) (hLR : LR X) (hLF : LF (xl X)) (kc ks : Nat) (hkc : kc ≤ 601024) (hks : ks ≤ 7293034) (k23 : Int32 → RS → Mem → Prop) (hk : ∀ (v4 : Int32) (ρ : RS) (μ : Mem), k23 v4 ρ μ → WM X 7 23 [(0, vR (some sb)), (1, vR v1), (2, vR (some b)), (3, vR v3), (4, vI v4)] [] kc ks (ov b ρ μ)) (v4 : Int32) (s0 : Int32) (ρ : RS) (μ : Mem) (h : LB_432 xs L v1 v3 b k23 v4 s0 ρ μ) : WM X 7 432 [(0, vR (some sb)), (1, vR v1), (2, vR (some b)), (3, vR v3), (4, vI v4)] [vI s0] kc ks (ov b ρ μ) := by
  have h : (¬ ((v4 + 1 : Int32) < 0 ∨ L ≤ ((v4 + 1 : Int32)).toNatClampNeg)) ∧ ((¬ ((v4 + 2 : Int32) < 0 ∨ L ≤ ((v4 + 2 : Int32)).toNatClampNeg)) ∧ ((¬ ((v4 + 3 : Int32) < 0 ∨ L ≤ ((v4 + 3 : Int32)).toNatClampNeg)) ∧ ((¬ ((v4 + 4 : Int32) < 0 ∨ L ≤ ((v4 + 4 : Int32)).toNatClampNeg)) ∧ (∃ x459 ρ459, R_M_parent (xs ((v4 + 1 : Int32)).toNatClampNeg) (xs ((v4 + 2 : Int32)).toNatClampNeg) (xs ((v4 + 3 : Int32)).toNatClampNeg) (xs ((v4 + 4 : Int32)).toNatClampNeg) ρ = some (x459, ρ459) ∧ mW μ ≤ b ∧ (∃ x463, R_M_thrown  ρ459 = some x463 ∧ (((x463 = s0) → (LB_1268 xs L v1 v3 b k23 v4 (ρ459) μ)) ∧ (¬ (x463 = s0) → ((0 : Int32) = 1)))))))) := h
  refine wm_istore (lv' := [(5, vI s0), (0, vR (some sb)), (1, vR v1), (2, vR (some b)), (3, vR v3), (4, vI v4)]) E dL_law_432 (by decide) rfl ?_
  refine wm_aload_n E dL_law_434 rfl (j := 3) rfl ?_
  refine wm_aload_n E dL_law_435 rfl (j := 1) rfl ?_
  refine wm_iload E dL_law_436 (j := 5) rfl ?_
  refine wm_iconst (x := 1) E dL_law_438 (by decide) ?_
  refine wm_iadd E dL_law_439 ?_
  obtain ⟨hi440, h⟩ := h
  refine wm_sld E hS hi440 dL_law_440 ?_
  refine wm_aload_n E dL_law_441 rfl (j := 1) rfl ?_
  refine wm_iload E dL_law_442 (j := 5) rfl ?_
  refine wm_iconst (x := 2) E dL_law_444 (by decide) ?_
  refine wm_iadd E dL_law_445 ?_
  obtain ⟨hi446, h⟩ := h
  refine wm_sld E hS hi446 dL_law_446 ?_
  refine wm_aload_n E dL_law_447 rfl (j := 1) rfl ?_
  refine wm_iload E dL_law_448 (j := 5) rfl ?_
  refine wm_iconst (x := 3) E dL_law_450 (by decide) ?_
  refine wm_iadd E dL_law_451 ?_
  obtain ⟨hi452, h⟩ := h
  refine wm_sld E hS hi452 dL_law_452 ?_
  refine wm_aload_n E dL_law_453 rfl (j := 1) rfl ?_
  refine wm_iload E dL_law_454 (j := 5) rfl ?_
  refine wm_iconst (x := 4) E dL_law_456 (by decide) ?_
  refine wm_iadd E dL_law_457 ?_
  obtain ⟨hi458, h⟩ := h
  refine wm_sld E hS hi458 dL_law_458 ?_
  obtain ⟨x459, ρ459, hc459, hW459, h⟩ := h
  refine wm_cV (ci := 12) (As := [vI (xs ((v4 + 1 : Int32)).toNatClampNeg), vI (xs ((v4 + 2 : Int32)).toNatClampNeg), vI (xs ((v4 + 3 : Int32)).toNatClampNeg), vI (xs ((v4 + 4 : Int32)).toNatClampNeg)]) (st := []) E lk_L_113 rfl im_M_parent sl_M_parent (ov_rc _ _ _) (RC_M_parent (xl X) X.1 b ρ μ hW459 (xs ((v4 + 1 : Int32)).toNatClampNeg) (xs ((v4 + 2 : Int32)).toNatClampNeg) (xs ((v4 + 3 : Int32)).toNatClampNeg) (xs ((v4 + 4 : Int32)).toNatClampNeg) _ _ hc459) rfl rfl (by rw [hR]; decide) (by rw [hR]; exact ⟨show kc + 0 ≤ 601024 by omega, show ks + 0 ≤ 7293034 by omega⟩) (Nat.le_of_ble_eq_true rfl) dL_law_459 ?_
  refine wm_aload_n E dL_law_462 rfl (j := 3) rfl ?_
  obtain ⟨x463, hc463, h⟩ := h
  refine wm_cV (ci := 12) (As := []) (st := []) E lk_L_85 rfl im_M_thrown sl_M_thrown (ov_rc _ _ _) (RC_M_thrown (xl X) X.1 b ρ459 μ  _ hc463) rfl rfl (by rw [hR]; decide) (by rw [hR]; exact ⟨show kc + 0 ≤ 601024 by omega, show ks + 0 ≤ 7293034 by omega⟩) (Nat.le_of_ble_eq_true rfl) dL_law_463 ?_
  refine wm_iload E dL_law_466 (j := 0) rfl ?_
  refine wm_icmp_eq (tgt := 473) E dL_law_468 (by decide) (fun c468 => ?_) (fun c468 => ?_)
  · have h := h.1 c468
    refine wm_goto (tgt := 1268) E dL_law_473 (by decide) ?_
    refine wm_pick (lv' := [(0, vR (some sb)), (1, vR v1), (2, vR (some b)), (3, vR v3), (4, vI v4)]) [1, 2, 3, 4, 5] rfl ?_
    exact lw_1268 E hS hR hLR hLF kc ks hkc hks k23 hk v4 (ρ459) μ h
  · have h := h.2 c468
    refine wm_iconst (x := 0) E dL_law_471 (by decide) ?_
    exact wm_lawret hLR h (by omega) (by omega) dL_law_472
def LB_492 (xs : Nat → Int32) (L : Nat) (v1 v3 : Option Nat) (b : Nat) (k23 : Int32 → RS → Mem → Prop) (v4 : Int32) (s0 : Int32) (ρ : RS) (μ : Mem) : Prop := (¬ ((v4 + 1 : Int32) < 0 ∨ L ≤ ((v4 + 1 : Int32)).toNatClampNeg)) ∧ ((¬ ((v4 + 2 : Int32) < 0 ∨ L ≤ ((v4 + 2 : Int32)).toNatClampNeg)) ∧ (∃ x507 ρ507, R_M_remove (xs ((v4 + 1 : Int32)).toNatClampNeg) (xs ((v4 + 2 : Int32)).toNatClampNeg) ρ = some (x507, ρ507) ∧ mW μ ≤ b ∧ (∃ x511, R_M_thrown  ρ507 = some x511 ∧ (((x511 = s0) → (LB_1268 xs L v1 v3 b k23 v4 (ρ507) μ)) ∧ (¬ (x511 = s0) → ((0 : Int32) = 1))))))
set_option maxHeartbeats 8000000 in
set_option maxRecDepth 100000 in
theorem lw_492 {X : CX} (E : EV X code 7 "PlaceFinderLaw" ret) {sb : Nat} {xs : Nat → Int32} {L : Nat} {v1 v3 : Option Nat} {b : Nat} (hS : SX X sb L xs) (hR : xR X = room_1) (hLR : LR X) (hLF : LF (xl X)) (kc ks : Nat) (hkc : kc ≤ 601024) (hks : ks ≤ 7293034) (k23 : Int32 → RS → Mem → Prop) (hk : ∀ (v4 : Int32) (ρ : RS) (μ : Mem), k23 v4 ρ μ → WM X 7 23 [(0, vR (some sb)), (1, vR v1), (2, vR (some b)), (3, vR v3), (4, vI v4)] [] kc ks (ov b ρ μ)) (v4 : Int32) (s0 : Int32) (ρ : RS) (μ : Mem) (h : LB_492 xs L v1 v3 b k23 v4 s0 ρ μ) : WM X 7 492 [(0, vR (some sb)), (1, vR v1), (2, vR (some b)), (3, vR v3), (4, vI v4)] [vI s0] kc ks (ov b ρ μ) := by
  have h : (¬ ((v4 + 1 : Int32) < 0 ∨ L ≤ ((v4 + 1 : Int32)).toNatClampNeg)) ∧ ((¬ ((v4 + 2 : Int32) < 0 ∨ L ≤ ((v4 + 2 : Int32)).toNatClampNeg)) ∧ (∃ x507 ρ507, R_M_remove (xs ((v4 + 1 : Int32)).toNatClampNeg) (xs ((v4 + 2 : Int32)).toNatClampNeg) ρ = some (x507, ρ507) ∧ mW μ ≤ b ∧ (∃ x511, R_M_thrown  ρ507 = some x511 ∧ (((x511 = s0) → (LB_1268 xs L v1 v3 b k23 v4 (ρ507) μ)) ∧ (¬ (x511 = s0) → ((0 : Int32) = 1)))))) := h
  refine wm_istore (lv' := [(5, vI s0), (0, vR (some sb)), (1, vR v1), (2, vR (some b)), (3, vR v3), (4, vI v4)]) E dL_law_492 (by decide) rfl ?_
  refine wm_aload_n E dL_law_494 rfl (j := 3) rfl ?_
  refine wm_aload_n E dL_law_495 rfl (j := 1) rfl ?_
  refine wm_iload E dL_law_496 (j := 5) rfl ?_
  refine wm_iconst (x := 1) E dL_law_498 (by decide) ?_
  refine wm_iadd E dL_law_499 ?_
  obtain ⟨hi500, h⟩ := h
  refine wm_sld E hS hi500 dL_law_500 ?_
  refine wm_aload_n E dL_law_501 rfl (j := 1) rfl ?_
  refine wm_iload E dL_law_502 (j := 5) rfl ?_
  refine wm_iconst (x := 2) E dL_law_504 (by decide) ?_
  refine wm_iadd E dL_law_505 ?_
  obtain ⟨hi506, h⟩ := h
  refine wm_sld E hS hi506 dL_law_506 ?_
  obtain ⟨x507, ρ507, hc507, hW507, h⟩ := h
  refine wm_cV (ci := 12) (As := [vI (xs ((v4 + 1 : Int32)).toNatClampNeg), vI (xs ((v4 + 2 : Int32)).toNatClampNeg)]) (st := []) E lk_L_116 rfl im_M_remove sl_M_remove (ov_rc _ _ _) (RC_M_remove (xl X) X.1 b ρ μ hW507 (xs ((v4 + 1 : Int32)).toNatClampNeg) (xs ((v4 + 2 : Int32)).toNatClampNeg) _ _ hc507) rfl rfl (by rw [hR]; decide) (by rw [hR]; exact ⟨show kc + 0 ≤ 601024 by omega, show ks + 0 ≤ 7293034 by omega⟩) (Nat.le_of_ble_eq_true rfl) dL_law_507 ?_
  refine wm_aload_n E dL_law_510 rfl (j := 3) rfl ?_
  obtain ⟨x511, hc511, h⟩ := h
  refine wm_cV (ci := 12) (As := []) (st := []) E lk_L_85 rfl im_M_thrown sl_M_thrown (ov_rc _ _ _) (RC_M_thrown (xl X) X.1 b ρ507 μ  _ hc511) rfl rfl (by rw [hR]; decide) (by rw [hR]; exact ⟨show kc + 0 ≤ 601024 by omega, show ks + 0 ≤ 7293034 by omega⟩) (Nat.le_of_ble_eq_true rfl) dL_law_511 ?_
  refine wm_iload E dL_law_514 (j := 0) rfl ?_
  refine wm_icmp_eq (tgt := 521) E dL_law_516 (by decide) (fun c516 => ?_) (fun c516 => ?_)
  · have h := h.1 c516
    refine wm_goto (tgt := 1268) E dL_law_521 (by decide) ?_
    refine wm_pick (lv' := [(0, vR (some sb)), (1, vR v1), (2, vR (some b)), (3, vR v3), (4, vI v4)]) [1, 2, 3, 4, 5] rfl ?_
    exact lw_1268 E hS hR hLR hLF kc ks hkc hks k23 hk v4 (ρ507) μ h
  · have h := h.2 c516
    refine wm_iconst (x := 0) E dL_law_519 (by decide) ?_
    exact wm_lawret hLR h (by omega) (by omega) dL_law_520
def LB_613 (xs : Nat → Int32) (L : Nat) (v1 v3 : Option Nat) (b : Nat) (k23 : Int32 → RS → Mem → Prop) (v4 : Int32)  (ρ : RS) (μ : Mem) : Prop := LB_1268 xs L v1 v3 b k23 v4 (ρ) μ
set_option maxHeartbeats 8000000 in
set_option maxRecDepth 100000 in
theorem lw_613 {X : CX} (E : EV X code 7 "PlaceFinderLaw" ret) {sb : Nat} {xs : Nat → Int32} {L : Nat} {v1 v3 : Option Nat} {b : Nat} (hS : SX X sb L xs) (hR : xR X = room_1) (hLR : LR X) (hLF : LF (xl X)) (kc ks : Nat) (hkc : kc ≤ 601024) (hks : ks ≤ 7293034) (k23 : Int32 → RS → Mem → Prop) (hk : ∀ (v4 : Int32) (ρ : RS) (μ : Mem), k23 v4 ρ μ → WM X 7 23 [(0, vR (some sb)), (1, vR v1), (2, vR (some b)), (3, vR v3), (4, vI v4)] [] kc ks (ov b ρ μ)) (v4 : Int32)  (ρ : RS) (μ : Mem) (h : LB_613 xs L v1 v3 b k23 v4 ρ μ) : WM X 7 613 [(0, vR (some sb)), (1, vR v1), (2, vR (some b)), (3, vR v3), (4, vI v4)] [] kc ks (ov b ρ μ) := by
  have h : LB_1268 xs L v1 v3 b k23 v4 (ρ) μ := h
  refine wm_goto (tgt := 1268) E dL_law_613 (by decide) ?_
  refine wm_pick (lv' := [(0, vR (some sb)), (1, vR v1), (2, vR (some b)), (3, vR v3), (4, vI v4)]) [0, 1, 2, 3, 4] rfl ?_
  exact lw_1268 E hS hR hLR hLF kc ks hkc hks k23 hk v4 (ρ) μ h
def LB_553 (xs : Nat → Int32) (L : Nat) (v1 v3 : Option Nat) (b : Nat) (k23 : Int32 → RS → Mem → Prop) (v4 : Int32) (s0 : Int32) (ρ : RS) (μ : Mem) : Prop := (¬ ((v4 + 1 : Int32) < 0 ∨ L ≤ ((v4 + 1 : Int32)).toNatClampNeg)) ∧ ((¬ ((v4 + 2 : Int32) < 0 ∨ L ≤ ((v4 + 2 : Int32)).toNatClampNeg)) ∧ ((¬ ((v4 + 3 : Int32) < 0 ∨ L ≤ ((v4 + 3 : Int32)).toNatClampNeg)) ∧ ((¬ ((v4 + 4 : Int32) < 0 ∨ L ≤ ((v4 + 4 : Int32)).toNatClampNeg)) ∧ (∃ x580 ρ580, R_M_condition (xs ((v4 + 1 : Int32)).toNatClampNeg) (xs ((v4 + 2 : Int32)).toNatClampNeg) (xs ((v4 + 3 : Int32)).toNatClampNeg) (xs ((v4 + 4 : Int32)).toNatClampNeg) ρ = some (x580, ρ580) ∧ mW μ ≤ b ∧ (∃ x586, R_M_thrown  ρ580 = some x586 ∧ (((x586 = s0) → (((s0 = 0) → (∃ x603, aL (ov b ρ580 μ) v3 1 0 = some x603 ∧ ((((lg_cmp x603 ((x580 : Int32).toInt64)) = 0) → (LB_613 xs L v1 v3 b k23 v4 (ρ580) μ)) ∧ (¬ ((lg_cmp x603 ((x580 : Int32).toInt64)) = 0) → ((0 : Int32) = 1))))) ∧ (¬ (s0 = 0) → (LB_613 xs L v1 v3 b k23 v4 (ρ580) μ)))) ∧ (¬ (x586 = s0) → ((0 : Int32) = 1))))))))
set_option maxHeartbeats 8000000 in
set_option maxRecDepth 100000 in
theorem lw_553 {X : CX} (E : EV X code 7 "PlaceFinderLaw" ret) {sb : Nat} {xs : Nat → Int32} {L : Nat} {v1 v3 : Option Nat} {b : Nat} (hS : SX X sb L xs) (hR : xR X = room_1) (hLR : LR X) (hLF : LF (xl X)) (kc ks : Nat) (hkc : kc ≤ 601024) (hks : ks ≤ 7293034) (k23 : Int32 → RS → Mem → Prop) (hk : ∀ (v4 : Int32) (ρ : RS) (μ : Mem), k23 v4 ρ μ → WM X 7 23 [(0, vR (some sb)), (1, vR v1), (2, vR (some b)), (3, vR v3), (4, vI v4)] [] kc ks (ov b ρ μ)) (v4 : Int32) (s0 : Int32) (ρ : RS) (μ : Mem) (h : LB_553 xs L v1 v3 b k23 v4 s0 ρ μ) : WM X 7 553 [(0, vR (some sb)), (1, vR v1), (2, vR (some b)), (3, vR v3), (4, vI v4)] [vI s0] kc ks (ov b ρ μ) := by
  have h : (¬ ((v4 + 1 : Int32) < 0 ∨ L ≤ ((v4 + 1 : Int32)).toNatClampNeg)) ∧ ((¬ ((v4 + 2 : Int32) < 0 ∨ L ≤ ((v4 + 2 : Int32)).toNatClampNeg)) ∧ ((¬ ((v4 + 3 : Int32) < 0 ∨ L ≤ ((v4 + 3 : Int32)).toNatClampNeg)) ∧ ((¬ ((v4 + 4 : Int32) < 0 ∨ L ≤ ((v4 + 4 : Int32)).toNatClampNeg)) ∧ (∃ x580 ρ580, R_M_condition (xs ((v4 + 1 : Int32)).toNatClampNeg) (xs ((v4 + 2 : Int32)).toNatClampNeg) (xs ((v4 + 3 : Int32)).toNatClampNeg) (xs ((v4 + 4 : Int32)).toNatClampNeg) ρ = some (x580, ρ580) ∧ mW μ ≤ b ∧ (∃ x586, R_M_thrown  ρ580 = some x586 ∧ (((x586 = s0) → (((s0 = 0) → (∃ x603, aL (ov b ρ580 μ) v3 1 0 = some x603 ∧ ((((lg_cmp x603 ((x580 : Int32).toInt64)) = 0) → (LB_613 xs L v1 v3 b k23 v4 (ρ580) μ)) ∧ (¬ ((lg_cmp x603 ((x580 : Int32).toInt64)) = 0) → ((0 : Int32) = 1))))) ∧ (¬ (s0 = 0) → (LB_613 xs L v1 v3 b k23 v4 (ρ580) μ)))) ∧ (¬ (x586 = s0) → ((0 : Int32) = 1)))))))) := h
  refine wm_istore (lv' := [(5, vI s0), (0, vR (some sb)), (1, vR v1), (2, vR (some b)), (3, vR v3), (4, vI v4)]) E dL_law_553 (by decide) rfl ?_
  refine wm_aload_n E dL_law_555 rfl (j := 3) rfl ?_
  refine wm_aload_n E dL_law_556 rfl (j := 1) rfl ?_
  refine wm_iload E dL_law_557 (j := 5) rfl ?_
  refine wm_iconst (x := 1) E dL_law_559 (by decide) ?_
  refine wm_iadd E dL_law_560 ?_
  obtain ⟨hi561, h⟩ := h
  refine wm_sld E hS hi561 dL_law_561 ?_
  refine wm_aload_n E dL_law_562 rfl (j := 1) rfl ?_
  refine wm_iload E dL_law_563 (j := 5) rfl ?_
  refine wm_iconst (x := 2) E dL_law_565 (by decide) ?_
  refine wm_iadd E dL_law_566 ?_
  obtain ⟨hi567, h⟩ := h
  refine wm_sld E hS hi567 dL_law_567 ?_
  refine wm_aload_n E dL_law_568 rfl (j := 1) rfl ?_
  refine wm_iload E dL_law_569 (j := 5) rfl ?_
  refine wm_iconst (x := 3) E dL_law_571 (by decide) ?_
  refine wm_iadd E dL_law_572 ?_
  obtain ⟨hi573, h⟩ := h
  refine wm_sld E hS hi573 dL_law_573 ?_
  refine wm_aload_n E dL_law_574 rfl (j := 1) rfl ?_
  refine wm_iload E dL_law_575 (j := 5) rfl ?_
  refine wm_iconst (x := 4) E dL_law_577 (by decide) ?_
  refine wm_iadd E dL_law_578 ?_
  obtain ⟨hi579, h⟩ := h
  refine wm_sld E hS hi579 dL_law_579 ?_
  obtain ⟨x580, ρ580, hc580, hW580, h⟩ := h
  refine wm_cV (ci := 12) (As := [vI (xs ((v4 + 1 : Int32)).toNatClampNeg), vI (xs ((v4 + 2 : Int32)).toNatClampNeg), vI (xs ((v4 + 3 : Int32)).toNatClampNeg), vI (xs ((v4 + 4 : Int32)).toNatClampNeg)]) (st := []) E lk_L_120 rfl im_M_condition sl_M_condition (ov_rc _ _ _) (RC_M_condition (xl X) X.1 b ρ μ hW580 (xs ((v4 + 1 : Int32)).toNatClampNeg) (xs ((v4 + 2 : Int32)).toNatClampNeg) (xs ((v4 + 3 : Int32)).toNatClampNeg) (xs ((v4 + 4 : Int32)).toNatClampNeg) _ _ hc580) rfl rfl (by rw [hR]; decide) (by rw [hR]; exact ⟨show kc + 0 ≤ 601024 by omega, show ks + 0 ≤ 7293034 by omega⟩) (Nat.le_of_ble_eq_true rfl) dL_law_580 ?_
  refine wm_istore (lv' := [(6, vI x580), (5, vI s0), (0, vR (some sb)), (1, vR v1), (2, vR (some b)), (3, vR v3), (4, vI v4)]) E dL_law_583 (by decide) rfl ?_
  refine wm_aload_n E dL_law_585 rfl (j := 4) rfl ?_
  obtain ⟨x586, hc586, h⟩ := h
  refine wm_cV (ci := 12) (As := []) (st := []) E lk_L_85 rfl im_M_thrown sl_M_thrown (ov_rc _ _ _) (RC_M_thrown (xl X) X.1 b ρ580 μ  _ hc586) rfl rfl (by rw [hR]; decide) (by rw [hR]; exact ⟨show kc + 0 ≤ 601024 by omega, show ks + 0 ≤ 7293034 by omega⟩) (Nat.le_of_ble_eq_true rfl) dL_law_586 ?_
  refine wm_iload E dL_law_589 (j := 1) rfl ?_
  refine wm_icmp_eq (tgt := 596) E dL_law_591 (by decide) (fun c591 => ?_) (fun c591 => ?_)
  · have h := h.1 c591
    refine wm_iload E dL_law_596 (j := 1) rfl ?_
    refine wm_if_ne (tgt := 613) E dL_law_598 (by decide) (fun c598 => ?_) (fun c598 => ?_)
    · have h := h.2 c598
      refine wm_pick (lv' := [(0, vR (some sb)), (1, vR v1), (2, vR (some b)), (3, vR v3), (4, vI v4)]) [2, 3, 4, 5, 6] rfl ?_
      exact lw_613 E hS hR hLR hLF kc ks hkc hks k23 hk v4 (ρ580) μ h
    · have h := h.1 c598
      refine wm_aload_n E dL_law_601 rfl (j := 5) rfl ?_
      refine wm_iconst (x := 0) E dL_law_602 (by decide) ?_
      obtain ⟨x603, hl603, h⟩ := h
      refine wm_lald (t := 1) (β := Int64) (res := x603) (F := some) E rfl (by rw [hl603]; rfl) dL_law_603 (fun y603 hy603 => ?_)
      cases hy603
      refine wm_iload E dL_law_604 (j := 0) rfl ?_
      refine wm_i2l E dL_law_606 ?_
      refine wm_lcmp E dL_law_607 ?_
      refine wm_if_eq (tgt := 613) E dL_law_608 (by decide) (fun c608 => ?_) (fun c608 => ?_)
      · have h := h.1 c608
        refine wm_pick (lv' := [(0, vR (some sb)), (1, vR v1), (2, vR (some b)), (3, vR v3), (4, vI v4)]) [2, 3, 4, 5, 6] rfl ?_
        exact lw_613 E hS hR hLR hLF kc ks hkc hks k23 hk v4 (ρ580) μ h
      · have h := h.2 c608
        refine wm_iconst (x := 0) E dL_law_611 (by decide) ?_
        exact wm_lawret hLR h (by omega) (by omega) dL_law_612
  · have h := h.2 c591
    refine wm_iconst (x := 0) E dL_law_594 (by decide) ?_
    exact wm_lawret hLR h (by omega) (by omega) dL_law_595
def LB_692 (xs : Nat → Int32) (L : Nat) (v1 v3 : Option Nat) (b : Nat) (k23 : Int32 → RS → Mem → Prop) (v4 : Int32)  (ρ : RS) (μ : Mem) : Prop := LB_1268 xs L v1 v3 b k23 v4 (ρ) μ
set_option maxHeartbeats 8000000 in
set_option maxRecDepth 100000 in
theorem lw_692 {X : CX} (E : EV X code 7 "PlaceFinderLaw" ret) {sb : Nat} {xs : Nat → Int32} {L : Nat} {v1 v3 : Option Nat} {b : Nat} (hS : SX X sb L xs) (hR : xR X = room_1) (hLR : LR X) (hLF : LF (xl X)) (kc ks : Nat) (hkc : kc ≤ 601024) (hks : ks ≤ 7293034) (k23 : Int32 → RS → Mem → Prop) (hk : ∀ (v4 : Int32) (ρ : RS) (μ : Mem), k23 v4 ρ μ → WM X 7 23 [(0, vR (some sb)), (1, vR v1), (2, vR (some b)), (3, vR v3), (4, vI v4)] [] kc ks (ov b ρ μ)) (v4 : Int32)  (ρ : RS) (μ : Mem) (h : LB_692 xs L v1 v3 b k23 v4 ρ μ) : WM X 7 692 [(0, vR (some sb)), (1, vR v1), (2, vR (some b)), (3, vR v3), (4, vI v4)] [] kc ks (ov b ρ μ) := by
  have h : LB_1268 xs L v1 v3 b k23 v4 (ρ) μ := h
  refine wm_goto (tgt := 1268) E dL_law_692 (by decide) ?_
  refine wm_pick (lv' := [(0, vR (some sb)), (1, vR v1), (2, vR (some b)), (3, vR v3), (4, vI v4)]) [0, 1, 2, 3, 4] rfl ?_
  exact lw_1268 E hS hR hLR hLF kc ks hkc hks k23 hk v4 (ρ) μ h
def LB_644 (xs : Nat → Int32) (L : Nat) (v1 v3 : Option Nat) (b : Nat) (k23 : Int32 → RS → Mem → Prop) (v4 : Int32) (s0 : Int32) (ρ : RS) (μ : Mem) : Prop := (¬ ((v4 + 1 : Int32) < 0 ∨ L ≤ ((v4 + 1 : Int32)).toNatClampNeg)) ∧ ((¬ ((v4 + 2 : Int32) < 0 ∨ L ≤ ((v4 + 2 : Int32)).toNatClampNeg)) ∧ (∃ x659 ρ659, R_M_find (xs ((v4 + 1 : Int32)).toNatClampNeg) (xs ((v4 + 2 : Int32)).toNatClampNeg) ρ = some (x659, ρ659) ∧ mW μ ≤ b ∧ (∃ x665, R_M_thrown  ρ659 = some x665 ∧ (((x665 = s0) → (((s0 = 0) → (∃ x682, aL (ov b ρ659 μ) v3 1 0 = some x682 ∧ ((((lg_cmp x682 ((x659 : Int32).toInt64)) = 0) → (LB_692 xs L v1 v3 b k23 v4 (ρ659) μ)) ∧ (¬ ((lg_cmp x682 ((x659 : Int32).toInt64)) = 0) → ((0 : Int32) = 1))))) ∧ (¬ (s0 = 0) → (LB_692 xs L v1 v3 b k23 v4 (ρ659) μ)))) ∧ (¬ (x665 = s0) → ((0 : Int32) = 1))))))
set_option maxHeartbeats 8000000 in
set_option maxRecDepth 100000 in
theorem lw_644 {X : CX} (E : EV X code 7 "PlaceFinderLaw" ret) {sb : Nat} {xs : Nat → Int32} {L : Nat} {v1 v3 : Option Nat} {b : Nat} (hS : SX X sb L xs) (hR : xR X = room_1) (hLR : LR X) (hLF : LF (xl X)) (kc ks : Nat) (hkc : kc ≤ 601024) (hks : ks ≤ 7293034) (k23 : Int32 → RS → Mem → Prop) (hk : ∀ (v4 : Int32) (ρ : RS) (μ : Mem), k23 v4 ρ μ → WM X 7 23 [(0, vR (some sb)), (1, vR v1), (2, vR (some b)), (3, vR v3), (4, vI v4)] [] kc ks (ov b ρ μ)) (v4 : Int32) (s0 : Int32) (ρ : RS) (μ : Mem) (h : LB_644 xs L v1 v3 b k23 v4 s0 ρ μ) : WM X 7 644 [(0, vR (some sb)), (1, vR v1), (2, vR (some b)), (3, vR v3), (4, vI v4)] [vI s0] kc ks (ov b ρ μ) := by
  have h : (¬ ((v4 + 1 : Int32) < 0 ∨ L ≤ ((v4 + 1 : Int32)).toNatClampNeg)) ∧ ((¬ ((v4 + 2 : Int32) < 0 ∨ L ≤ ((v4 + 2 : Int32)).toNatClampNeg)) ∧ (∃ x659 ρ659, R_M_find (xs ((v4 + 1 : Int32)).toNatClampNeg) (xs ((v4 + 2 : Int32)).toNatClampNeg) ρ = some (x659, ρ659) ∧ mW μ ≤ b ∧ (∃ x665, R_M_thrown  ρ659 = some x665 ∧ (((x665 = s0) → (((s0 = 0) → (∃ x682, aL (ov b ρ659 μ) v3 1 0 = some x682 ∧ ((((lg_cmp x682 ((x659 : Int32).toInt64)) = 0) → (LB_692 xs L v1 v3 b k23 v4 (ρ659) μ)) ∧ (¬ ((lg_cmp x682 ((x659 : Int32).toInt64)) = 0) → ((0 : Int32) = 1))))) ∧ (¬ (s0 = 0) → (LB_692 xs L v1 v3 b k23 v4 (ρ659) μ)))) ∧ (¬ (x665 = s0) → ((0 : Int32) = 1)))))) := h
  refine wm_istore (lv' := [(5, vI s0), (0, vR (some sb)), (1, vR v1), (2, vR (some b)), (3, vR v3), (4, vI v4)]) E dL_law_644 (by decide) rfl ?_
  refine wm_aload_n E dL_law_646 rfl (j := 3) rfl ?_
  refine wm_aload_n E dL_law_647 rfl (j := 1) rfl ?_
  refine wm_iload E dL_law_648 (j := 5) rfl ?_
  refine wm_iconst (x := 1) E dL_law_650 (by decide) ?_
  refine wm_iadd E dL_law_651 ?_
  obtain ⟨hi652, h⟩ := h
  refine wm_sld E hS hi652 dL_law_652 ?_
  refine wm_aload_n E dL_law_653 rfl (j := 1) rfl ?_
  refine wm_iload E dL_law_654 (j := 5) rfl ?_
  refine wm_iconst (x := 2) E dL_law_656 (by decide) ?_
  refine wm_iadd E dL_law_657 ?_
  obtain ⟨hi658, h⟩ := h
  refine wm_sld E hS hi658 dL_law_658 ?_
  obtain ⟨x659, ρ659, hc659, hW659, h⟩ := h
  refine wm_cV (ci := 12) (As := [vI (xs ((v4 + 1 : Int32)).toNatClampNeg), vI (xs ((v4 + 2 : Int32)).toNatClampNeg)]) (st := []) E lk_L_127 rfl im_M_find sl_M_find (ov_rc _ _ _) (RC_M_find (xl X) X.1 b ρ μ hW659 (xs ((v4 + 1 : Int32)).toNatClampNeg) (xs ((v4 + 2 : Int32)).toNatClampNeg) _ _ hc659) rfl rfl (by rw [hR]; decide) (by rw [hR]; exact ⟨show kc + 0 ≤ 601024 by omega, show ks + 0 ≤ 7293034 by omega⟩) (Nat.le_of_ble_eq_true rfl) dL_law_659 ?_
  refine wm_istore (lv' := [(6, vI x659), (5, vI s0), (0, vR (some sb)), (1, vR v1), (2, vR (some b)), (3, vR v3), (4, vI v4)]) E dL_law_662 (by decide) rfl ?_
  refine wm_aload_n E dL_law_664 rfl (j := 4) rfl ?_
  obtain ⟨x665, hc665, h⟩ := h
  refine wm_cV (ci := 12) (As := []) (st := []) E lk_L_85 rfl im_M_thrown sl_M_thrown (ov_rc _ _ _) (RC_M_thrown (xl X) X.1 b ρ659 μ  _ hc665) rfl rfl (by rw [hR]; decide) (by rw [hR]; exact ⟨show kc + 0 ≤ 601024 by omega, show ks + 0 ≤ 7293034 by omega⟩) (Nat.le_of_ble_eq_true rfl) dL_law_665 ?_
  refine wm_iload E dL_law_668 (j := 1) rfl ?_
  refine wm_icmp_eq (tgt := 675) E dL_law_670 (by decide) (fun c670 => ?_) (fun c670 => ?_)
  · have h := h.1 c670
    refine wm_iload E dL_law_675 (j := 1) rfl ?_
    refine wm_if_ne (tgt := 692) E dL_law_677 (by decide) (fun c677 => ?_) (fun c677 => ?_)
    · have h := h.2 c677
      refine wm_pick (lv' := [(0, vR (some sb)), (1, vR v1), (2, vR (some b)), (3, vR v3), (4, vI v4)]) [2, 3, 4, 5, 6] rfl ?_
      exact lw_692 E hS hR hLR hLF kc ks hkc hks k23 hk v4 (ρ659) μ h
    · have h := h.1 c677
      refine wm_aload_n E dL_law_680 rfl (j := 5) rfl ?_
      refine wm_iconst (x := 0) E dL_law_681 (by decide) ?_
      obtain ⟨x682, hl682, h⟩ := h
      refine wm_lald (t := 1) (β := Int64) (res := x682) (F := some) E rfl (by rw [hl682]; rfl) dL_law_682 (fun y682 hy682 => ?_)
      cases hy682
      refine wm_iload E dL_law_683 (j := 0) rfl ?_
      refine wm_i2l E dL_law_685 ?_
      refine wm_lcmp E dL_law_686 ?_
      refine wm_if_eq (tgt := 692) E dL_law_687 (by decide) (fun c687 => ?_) (fun c687 => ?_)
      · have h := h.1 c687
        refine wm_pick (lv' := [(0, vR (some sb)), (1, vR v1), (2, vR (some b)), (3, vR v3), (4, vI v4)]) [2, 3, 4, 5, 6] rfl ?_
        exact lw_692 E hS hR hLR hLF kc ks hkc hks k23 hk v4 (ρ659) μ h
      · have h := h.2 c687
        refine wm_iconst (x := 0) E dL_law_690 (by decide) ?_
        exact wm_lawret hLR h (by omega) (by omega) dL_law_691
  · have h := h.2 c670
    refine wm_iconst (x := 0) E dL_law_673 (by decide) ?_
    exact wm_lawret hLR h (by omega) (by omega) dL_law_674
def LB_796 (xs : Nat → Int32) (L : Nat) (v1 v3 : Option Nat) (b : Nat) (k23 : Int32 → RS → Mem → Prop) (v4 : Int32)  (ρ : RS) (μ : Mem) : Prop := LB_1268 xs L v1 v3 b k23 v4 (ρ) μ
set_option maxHeartbeats 8000000 in
set_option maxRecDepth 100000 in
theorem lw_796 {X : CX} (E : EV X code 7 "PlaceFinderLaw" ret) {sb : Nat} {xs : Nat → Int32} {L : Nat} {v1 v3 : Option Nat} {b : Nat} (hS : SX X sb L xs) (hR : xR X = room_1) (hLR : LR X) (hLF : LF (xl X)) (kc ks : Nat) (hkc : kc ≤ 601024) (hks : ks ≤ 7293034) (k23 : Int32 → RS → Mem → Prop) (hk : ∀ (v4 : Int32) (ρ : RS) (μ : Mem), k23 v4 ρ μ → WM X 7 23 [(0, vR (some sb)), (1, vR v1), (2, vR (some b)), (3, vR v3), (4, vI v4)] [] kc ks (ov b ρ μ)) (v4 : Int32)  (ρ : RS) (μ : Mem) (h : LB_796 xs L v1 v3 b k23 v4 ρ μ) : WM X 7 796 [(0, vR (some sb)), (1, vR v1), (2, vR (some b)), (3, vR v3), (4, vI v4)] [] kc ks (ov b ρ μ) := by
  have h : LB_1268 xs L v1 v3 b k23 v4 (ρ) μ := h
  refine wm_goto (tgt := 1268) E dL_law_796 (by decide) ?_
  refine wm_pick (lv' := [(0, vR (some sb)), (1, vR v1), (2, vR (some b)), (3, vR v3), (4, vI v4)]) [0, 1, 2, 3, 4] rfl ?_
  exact lw_1268 E hS hR hLR hLF kc ks hkc hks k23 hk v4 (ρ) μ h
def LB_730 (xs : Nat → Int32) (L : Nat) (v1 v3 : Option Nat) (b : Nat) (k23 : Int32 → RS → Mem → Prop) (v4 : Int32) (s0 : Int32) (ρ : RS) (μ : Mem) : Prop := (¬ ((v4 + 1 : Int32) < 0 ∨ L ≤ ((v4 + 1 : Int32)).toNatClampNeg)) ∧ ((¬ ((v4 + 2 : Int32) < 0 ∨ L ≤ ((v4 + 2 : Int32)).toNatClampNeg)) ∧ ((¬ ((v4 + 3 : Int32) < 0 ∨ L ≤ ((v4 + 3 : Int32)).toNatClampNeg)) ∧ ((¬ ((v4 + 4 : Int32) < 0 ∨ L ≤ ((v4 + 4 : Int32)).toNatClampNeg)) ∧ ((¬ ((v4 + 5 : Int32) < 0 ∨ L ≤ ((v4 + 5 : Int32)).toNatClampNeg)) ∧ (∃ x763 ρ763, R_M_near (xs ((v4 + 1 : Int32)).toNatClampNeg) (xs ((v4 + 2 : Int32)).toNatClampNeg) (xs ((v4 + 3 : Int32)).toNatClampNeg) (xs ((v4 + 4 : Int32)).toNatClampNeg) (xs ((v4 + 5 : Int32)).toNatClampNeg) ρ = some (x763, ρ763) ∧ mW μ ≤ b ∧ (∃ x769, R_M_thrown  ρ763 = some x769 ∧ (((x769 = s0) → (((s0 = 0) → (∃ x786, aL (ov b ρ763 μ) v3 1 0 = some x786 ∧ ((((lg_cmp x786 ((x763 : Int32).toInt64)) = 0) → (LB_796 xs L v1 v3 b k23 v4 (ρ763) μ)) ∧ (¬ ((lg_cmp x786 ((x763 : Int32).toInt64)) = 0) → ((0 : Int32) = 1))))) ∧ (¬ (s0 = 0) → (LB_796 xs L v1 v3 b k23 v4 (ρ763) μ)))) ∧ (¬ (x769 = s0) → ((0 : Int32) = 1)))))))))
set_option maxHeartbeats 8000000 in
set_option maxRecDepth 100000 in
theorem lw_730 {X : CX} (E : EV X code 7 "PlaceFinderLaw" ret) {sb : Nat} {xs : Nat → Int32} {L : Nat} {v1 v3 : Option Nat} {b : Nat} (hS : SX X sb L xs) (hR : xR X = room_1) (hLR : LR X) (hLF : LF (xl X)) (kc ks : Nat) (hkc : kc ≤ 601024) (hks : ks ≤ 7293034) (k23 : Int32 → RS → Mem → Prop) (hk : ∀ (v4 : Int32) (ρ : RS) (μ : Mem), k23 v4 ρ μ → WM X 7 23 [(0, vR (some sb)), (1, vR v1), (2, vR (some b)), (3, vR v3), (4, vI v4)] [] kc ks (ov b ρ μ)) (v4 : Int32) (s0 : Int32) (ρ : RS) (μ : Mem) (h : LB_730 xs L v1 v3 b k23 v4 s0 ρ μ) : WM X 7 730 [(0, vR (some sb)), (1, vR v1), (2, vR (some b)), (3, vR v3), (4, vI v4)] [vI s0] kc ks (ov b ρ μ) := by
  have h : (¬ ((v4 + 1 : Int32) < 0 ∨ L ≤ ((v4 + 1 : Int32)).toNatClampNeg)) ∧ ((¬ ((v4 + 2 : Int32) < 0 ∨ L ≤ ((v4 + 2 : Int32)).toNatClampNeg)) ∧ ((¬ ((v4 + 3 : Int32) < 0 ∨ L ≤ ((v4 + 3 : Int32)).toNatClampNeg)) ∧ ((¬ ((v4 + 4 : Int32) < 0 ∨ L ≤ ((v4 + 4 : Int32)).toNatClampNeg)) ∧ ((¬ ((v4 + 5 : Int32) < 0 ∨ L ≤ ((v4 + 5 : Int32)).toNatClampNeg)) ∧ (∃ x763 ρ763, R_M_near (xs ((v4 + 1 : Int32)).toNatClampNeg) (xs ((v4 + 2 : Int32)).toNatClampNeg) (xs ((v4 + 3 : Int32)).toNatClampNeg) (xs ((v4 + 4 : Int32)).toNatClampNeg) (xs ((v4 + 5 : Int32)).toNatClampNeg) ρ = some (x763, ρ763) ∧ mW μ ≤ b ∧ (∃ x769, R_M_thrown  ρ763 = some x769 ∧ (((x769 = s0) → (((s0 = 0) → (∃ x786, aL (ov b ρ763 μ) v3 1 0 = some x786 ∧ ((((lg_cmp x786 ((x763 : Int32).toInt64)) = 0) → (LB_796 xs L v1 v3 b k23 v4 (ρ763) μ)) ∧ (¬ ((lg_cmp x786 ((x763 : Int32).toInt64)) = 0) → ((0 : Int32) = 1))))) ∧ (¬ (s0 = 0) → (LB_796 xs L v1 v3 b k23 v4 (ρ763) μ)))) ∧ (¬ (x769 = s0) → ((0 : Int32) = 1))))))))) := h
  refine wm_istore (lv' := [(5, vI s0), (0, vR (some sb)), (1, vR v1), (2, vR (some b)), (3, vR v3), (4, vI v4)]) E dL_law_730 (by decide) rfl ?_
  refine wm_aload_n E dL_law_732 rfl (j := 3) rfl ?_
  refine wm_aload_n E dL_law_733 rfl (j := 1) rfl ?_
  refine wm_iload E dL_law_734 (j := 5) rfl ?_
  refine wm_iconst (x := 1) E dL_law_736 (by decide) ?_
  refine wm_iadd E dL_law_737 ?_
  obtain ⟨hi738, h⟩ := h
  refine wm_sld E hS hi738 dL_law_738 ?_
  refine wm_aload_n E dL_law_739 rfl (j := 1) rfl ?_
  refine wm_iload E dL_law_740 (j := 5) rfl ?_
  refine wm_iconst (x := 2) E dL_law_742 (by decide) ?_
  refine wm_iadd E dL_law_743 ?_
  obtain ⟨hi744, h⟩ := h
  refine wm_sld E hS hi744 dL_law_744 ?_
  refine wm_aload_n E dL_law_745 rfl (j := 1) rfl ?_
  refine wm_iload E dL_law_746 (j := 5) rfl ?_
  refine wm_iconst (x := 3) E dL_law_748 (by decide) ?_
  refine wm_iadd E dL_law_749 ?_
  obtain ⟨hi750, h⟩ := h
  refine wm_sld E hS hi750 dL_law_750 ?_
  refine wm_aload_n E dL_law_751 rfl (j := 1) rfl ?_
  refine wm_iload E dL_law_752 (j := 5) rfl ?_
  refine wm_iconst (x := 4) E dL_law_754 (by decide) ?_
  refine wm_iadd E dL_law_755 ?_
  obtain ⟨hi756, h⟩ := h
  refine wm_sld E hS hi756 dL_law_756 ?_
  refine wm_aload_n E dL_law_757 rfl (j := 1) rfl ?_
  refine wm_iload E dL_law_758 (j := 5) rfl ?_
  refine wm_iconst (x := 5) E dL_law_760 (by decide) ?_
  refine wm_iadd E dL_law_761 ?_
  obtain ⟨hi762, h⟩ := h
  refine wm_sld E hS hi762 dL_law_762 ?_
  obtain ⟨x763, ρ763, hc763, hW763, h⟩ := h
  refine wm_cV (ci := 12) (As := [vI (xs ((v4 + 1 : Int32)).toNatClampNeg), vI (xs ((v4 + 2 : Int32)).toNatClampNeg), vI (xs ((v4 + 3 : Int32)).toNatClampNeg), vI (xs ((v4 + 4 : Int32)).toNatClampNeg), vI (xs ((v4 + 5 : Int32)).toNatClampNeg)]) (st := []) E lk_L_131 rfl im_M_near sl_M_near (ov_rc _ _ _) (RC_M_near (xl X) X.1 b ρ μ hW763 (xs ((v4 + 1 : Int32)).toNatClampNeg) (xs ((v4 + 2 : Int32)).toNatClampNeg) (xs ((v4 + 3 : Int32)).toNatClampNeg) (xs ((v4 + 4 : Int32)).toNatClampNeg) (xs ((v4 + 5 : Int32)).toNatClampNeg) _ _ hc763) rfl rfl (by rw [hR]; decide) (by rw [hR]; exact ⟨show kc + 0 ≤ 601024 by omega, show ks + 0 ≤ 7293034 by omega⟩) (Nat.le_of_ble_eq_true rfl) dL_law_763 ?_
  refine wm_istore (lv' := [(6, vI x763), (5, vI s0), (0, vR (some sb)), (1, vR v1), (2, vR (some b)), (3, vR v3), (4, vI v4)]) E dL_law_766 (by decide) rfl ?_
  refine wm_aload_n E dL_law_768 rfl (j := 4) rfl ?_
  obtain ⟨x769, hc769, h⟩ := h
  refine wm_cV (ci := 12) (As := []) (st := []) E lk_L_85 rfl im_M_thrown sl_M_thrown (ov_rc _ _ _) (RC_M_thrown (xl X) X.1 b ρ763 μ  _ hc769) rfl rfl (by rw [hR]; decide) (by rw [hR]; exact ⟨show kc + 0 ≤ 601024 by omega, show ks + 0 ≤ 7293034 by omega⟩) (Nat.le_of_ble_eq_true rfl) dL_law_769 ?_
  refine wm_iload E dL_law_772 (j := 1) rfl ?_
  refine wm_icmp_eq (tgt := 779) E dL_law_774 (by decide) (fun c774 => ?_) (fun c774 => ?_)
  · have h := h.1 c774
    refine wm_iload E dL_law_779 (j := 1) rfl ?_
    refine wm_if_ne (tgt := 796) E dL_law_781 (by decide) (fun c781 => ?_) (fun c781 => ?_)
    · have h := h.2 c781
      refine wm_pick (lv' := [(0, vR (some sb)), (1, vR v1), (2, vR (some b)), (3, vR v3), (4, vI v4)]) [2, 3, 4, 5, 6] rfl ?_
      exact lw_796 E hS hR hLR hLF kc ks hkc hks k23 hk v4 (ρ763) μ h
    · have h := h.1 c781
      refine wm_aload_n E dL_law_784 rfl (j := 5) rfl ?_
      refine wm_iconst (x := 0) E dL_law_785 (by decide) ?_
      obtain ⟨x786, hl786, h⟩ := h
      refine wm_lald (t := 1) (β := Int64) (res := x786) (F := some) E rfl (by rw [hl786]; rfl) dL_law_786 (fun y786 hy786 => ?_)
      cases hy786
      refine wm_iload E dL_law_787 (j := 0) rfl ?_
      refine wm_i2l E dL_law_789 ?_
      refine wm_lcmp E dL_law_790 ?_
      refine wm_if_eq (tgt := 796) E dL_law_791 (by decide) (fun c791 => ?_) (fun c791 => ?_)
      · have h := h.1 c791
        refine wm_pick (lv' := [(0, vR (some sb)), (1, vR v1), (2, vR (some b)), (3, vR v3), (4, vI v4)]) [2, 3, 4, 5, 6] rfl ?_
        exact lw_796 E hS hR hLR hLF kc ks hkc hks k23 hk v4 (ρ763) μ h
      · have h := h.2 c791
        refine wm_iconst (x := 0) E dL_law_794 (by decide) ?_
        exact wm_lawret hLR h (by omega) (by omega) dL_law_795
  · have h := h.2 c774
    refine wm_iconst (x := 0) E dL_law_777 (by decide) ?_
    exact wm_lawret hLR h (by omega) (by omega) dL_law_778
def LB_852 (xs : Nat → Int32) (L : Nat) (v1 v3 : Option Nat) (b : Nat) (k23 : Int32 → RS → Mem → Prop) (v4 : Int32)  (ρ : RS) (μ : Mem) : Prop := LB_1268 xs L v1 v3 b k23 v4 (ρ) μ
set_option maxHeartbeats 8000000 in
set_option maxRecDepth 100000 in
theorem lw_852 {X : CX} (E : EV X code 7 "PlaceFinderLaw" ret) {sb : Nat} {xs : Nat → Int32} {L : Nat} {v1 v3 : Option Nat} {b : Nat} (hS : SX X sb L xs) (hR : xR X = room_1) (hLR : LR X) (hLF : LF (xl X)) (kc ks : Nat) (hkc : kc ≤ 601024) (hks : ks ≤ 7293034) (k23 : Int32 → RS → Mem → Prop) (hk : ∀ (v4 : Int32) (ρ : RS) (μ : Mem), k23 v4 ρ μ → WM X 7 23 [(0, vR (some sb)), (1, vR v1), (2, vR (some b)), (3, vR v3), (4, vI v4)] [] kc ks (ov b ρ μ)) (v4 : Int32)  (ρ : RS) (μ : Mem) (h : LB_852 xs L v1 v3 b k23 v4 ρ μ) : WM X 7 852 [(0, vR (some sb)), (1, vR v1), (2, vR (some b)), (3, vR v3), (4, vI v4)] [] kc ks (ov b ρ μ) := by
  have h : LB_1268 xs L v1 v3 b k23 v4 (ρ) μ := h
  refine wm_goto (tgt := 1268) E dL_law_852 (by decide) ?_
  refine wm_pick (lv' := [(0, vR (some sb)), (1, vR v1), (2, vR (some b)), (3, vR v3), (4, vI v4)]) [0, 1, 2, 3, 4] rfl ?_
  exact lw_1268 E hS hR hLR hLF kc ks hkc hks k23 hk v4 (ρ) μ h
def LB_810 (xs : Nat → Int32) (L : Nat) (v1 v3 : Option Nat) (b : Nat) (k23 : Int32 → RS → Mem → Prop) (v4 : Int32) (s0 : Int32) (ρ : RS) (μ : Mem) : Prop := (¬ ((v4 + 1 : Int32) < 0 ∨ L ≤ ((v4 + 1 : Int32)).toNatClampNeg)) ∧ (∃ x819 ρ819, R_M_hit (xs ((v4 + 1 : Int32)).toNatClampNeg) ρ = some (x819, ρ819) ∧ mW μ ≤ b ∧ (∃ x825, R_M_thrown  ρ819 = some x825 ∧ (((x825 = s0) → (((s0 = 0) → (∃ x842, aL (ov b ρ819 μ) v3 1 0 = some x842 ∧ ((((lg_cmp x842 ((x819 : Int32).toInt64)) = 0) → (LB_852 xs L v1 v3 b k23 v4 (ρ819) μ)) ∧ (¬ ((lg_cmp x842 ((x819 : Int32).toInt64)) = 0) → ((0 : Int32) = 1))))) ∧ (¬ (s0 = 0) → (LB_852 xs L v1 v3 b k23 v4 (ρ819) μ)))) ∧ (¬ (x825 = s0) → ((0 : Int32) = 1)))))
set_option maxHeartbeats 8000000 in
set_option maxRecDepth 100000 in
theorem lw_810 {X : CX} (E : EV X code 7 "PlaceFinderLaw" ret) {sb : Nat} {xs : Nat → Int32} {L : Nat} {v1 v3 : Option Nat} {b : Nat} (hS : SX X sb L xs) (hR : xR X = room_1) (hLR : LR X) (hLF : LF (xl X)) (kc ks : Nat) (hkc : kc ≤ 601024) (hks : ks ≤ 7293034) (k23 : Int32 → RS → Mem → Prop) (hk : ∀ (v4 : Int32) (ρ : RS) (μ : Mem), k23 v4 ρ μ → WM X 7 23 [(0, vR (some sb)), (1, vR v1), (2, vR (some b)), (3, vR v3), (4, vI v4)] [] kc ks (ov b ρ μ)) (v4 : Int32) (s0 : Int32) (ρ : RS) (μ : Mem) (h : LB_810 xs L v1 v3 b k23 v4 s0 ρ μ) : WM X 7 810 [(0, vR (some sb)), (1, vR v1), (2, vR (some b)), (3, vR v3), (4, vI v4)] [vI s0] kc ks (ov b ρ μ) := by
  have h : (¬ ((v4 + 1 : Int32) < 0 ∨ L ≤ ((v4 + 1 : Int32)).toNatClampNeg)) ∧ (∃ x819 ρ819, R_M_hit (xs ((v4 + 1 : Int32)).toNatClampNeg) ρ = some (x819, ρ819) ∧ mW μ ≤ b ∧ (∃ x825, R_M_thrown  ρ819 = some x825 ∧ (((x825 = s0) → (((s0 = 0) → (∃ x842, aL (ov b ρ819 μ) v3 1 0 = some x842 ∧ ((((lg_cmp x842 ((x819 : Int32).toInt64)) = 0) → (LB_852 xs L v1 v3 b k23 v4 (ρ819) μ)) ∧ (¬ ((lg_cmp x842 ((x819 : Int32).toInt64)) = 0) → ((0 : Int32) = 1))))) ∧ (¬ (s0 = 0) → (LB_852 xs L v1 v3 b k23 v4 (ρ819) μ)))) ∧ (¬ (x825 = s0) → ((0 : Int32) = 1))))) := h
  refine wm_istore (lv' := [(5, vI s0), (0, vR (some sb)), (1, vR v1), (2, vR (some b)), (3, vR v3), (4, vI v4)]) E dL_law_810 (by decide) rfl ?_
  refine wm_aload_n E dL_law_812 rfl (j := 3) rfl ?_
  refine wm_aload_n E dL_law_813 rfl (j := 1) rfl ?_
  refine wm_iload E dL_law_814 (j := 5) rfl ?_
  refine wm_iconst (x := 1) E dL_law_816 (by decide) ?_
  refine wm_iadd E dL_law_817 ?_
  obtain ⟨hi818, h⟩ := h
  refine wm_sld E hS hi818 dL_law_818 ?_
  obtain ⟨x819, ρ819, hc819, hW819, h⟩ := h
  refine wm_cV (ci := 12) (As := [vI (xs ((v4 + 1 : Int32)).toNatClampNeg)]) (st := []) E lk_L_134 rfl im_M_hit sl_M_hit (ov_rc _ _ _) (RC_M_hit (xl X) X.1 b ρ μ hW819 (xs ((v4 + 1 : Int32)).toNatClampNeg) _ _ hc819) rfl rfl (by rw [hR]; decide) (by rw [hR]; exact ⟨show kc + 0 ≤ 601024 by omega, show ks + 0 ≤ 7293034 by omega⟩) (Nat.le_of_ble_eq_true rfl) dL_law_819 ?_
  refine wm_istore (lv' := [(6, vI x819), (5, vI s0), (0, vR (some sb)), (1, vR v1), (2, vR (some b)), (3, vR v3), (4, vI v4)]) E dL_law_822 (by decide) rfl ?_
  refine wm_aload_n E dL_law_824 rfl (j := 4) rfl ?_
  obtain ⟨x825, hc825, h⟩ := h
  refine wm_cV (ci := 12) (As := []) (st := []) E lk_L_85 rfl im_M_thrown sl_M_thrown (ov_rc _ _ _) (RC_M_thrown (xl X) X.1 b ρ819 μ  _ hc825) rfl rfl (by rw [hR]; decide) (by rw [hR]; exact ⟨show kc + 0 ≤ 601024 by omega, show ks + 0 ≤ 7293034 by omega⟩) (Nat.le_of_ble_eq_true rfl) dL_law_825 ?_
  refine wm_iload E dL_law_828 (j := 1) rfl ?_
  refine wm_icmp_eq (tgt := 835) E dL_law_830 (by decide) (fun c830 => ?_) (fun c830 => ?_)
  · have h := h.1 c830
    refine wm_iload E dL_law_835 (j := 1) rfl ?_
    refine wm_if_ne (tgt := 852) E dL_law_837 (by decide) (fun c837 => ?_) (fun c837 => ?_)
    · have h := h.2 c837
      refine wm_pick (lv' := [(0, vR (some sb)), (1, vR v1), (2, vR (some b)), (3, vR v3), (4, vI v4)]) [2, 3, 4, 5, 6] rfl ?_
      exact lw_852 E hS hR hLR hLF kc ks hkc hks k23 hk v4 (ρ819) μ h
    · have h := h.1 c837
      refine wm_aload_n E dL_law_840 rfl (j := 5) rfl ?_
      refine wm_iconst (x := 0) E dL_law_841 (by decide) ?_
      obtain ⟨x842, hl842, h⟩ := h
      refine wm_lald (t := 1) (β := Int64) (res := x842) (F := some) E rfl (by rw [hl842]; rfl) dL_law_842 (fun y842 hy842 => ?_)
      cases hy842
      refine wm_iload E dL_law_843 (j := 0) rfl ?_
      refine wm_i2l E dL_law_845 ?_
      refine wm_lcmp E dL_law_846 ?_
      refine wm_if_eq (tgt := 852) E dL_law_847 (by decide) (fun c847 => ?_) (fun c847 => ?_)
      · have h := h.1 c847
        refine wm_pick (lv' := [(0, vR (some sb)), (1, vR v1), (2, vR (some b)), (3, vR v3), (4, vI v4)]) [2, 3, 4, 5, 6] rfl ?_
        exact lw_852 E hS hR hLR hLF kc ks hkc hks k23 hk v4 (ρ819) μ h
      · have h := h.2 c847
        refine wm_iconst (x := 0) E dL_law_850 (by decide) ?_
        exact wm_lawret hLR h (by omega) (by omega) dL_law_851
  · have h := h.2 c830
    refine wm_iconst (x := 0) E dL_law_833 (by decide) ?_
    exact wm_lawret hLR h (by omega) (by omega) dL_law_834
def LB_932 (xs : Nat → Int32) (L : Nat) (v1 v3 : Option Nat) (b : Nat) (k23 : Int32 → RS → Mem → Prop) (v4 : Int32)  (ρ : RS) (μ : Mem) : Prop := LB_1268 xs L v1 v3 b k23 v4 (ρ) μ
set_option maxHeartbeats 8000000 in
set_option maxRecDepth 100000 in
theorem lw_932 {X : CX} (E : EV X code 7 "PlaceFinderLaw" ret) {sb : Nat} {xs : Nat → Int32} {L : Nat} {v1 v3 : Option Nat} {b : Nat} (hS : SX X sb L xs) (hR : xR X = room_1) (hLR : LR X) (hLF : LF (xl X)) (kc ks : Nat) (hkc : kc ≤ 601024) (hks : ks ≤ 7293034) (k23 : Int32 → RS → Mem → Prop) (hk : ∀ (v4 : Int32) (ρ : RS) (μ : Mem), k23 v4 ρ μ → WM X 7 23 [(0, vR (some sb)), (1, vR v1), (2, vR (some b)), (3, vR v3), (4, vI v4)] [] kc ks (ov b ρ μ)) (v4 : Int32)  (ρ : RS) (μ : Mem) (h : LB_932 xs L v1 v3 b k23 v4 ρ μ) : WM X 7 932 [(0, vR (some sb)), (1, vR v1), (2, vR (some b)), (3, vR v3), (4, vI v4)] [] kc ks (ov b ρ μ) := by
  have h : LB_1268 xs L v1 v3 b k23 v4 (ρ) μ := h
  refine wm_goto (tgt := 1268) E dL_law_932 (by decide) ?_
  refine wm_pick (lv' := [(0, vR (some sb)), (1, vR v1), (2, vR (some b)), (3, vR v3), (4, vI v4)]) [0, 1, 2, 3, 4] rfl ?_
  exact lw_1268 E hS hR hLR hLF kc ks hkc hks k23 hk v4 (ρ) μ h
def LB_878 (xs : Nat → Int32) (L : Nat) (v1 v3 : Option Nat) (b : Nat) (k23 : Int32 → RS → Mem → Prop) (v4 : Int32) (s0 : Int32) (ρ : RS) (μ : Mem) : Prop := (¬ ((v4 + 1 : Int32) < 0 ∨ L ≤ ((v4 + 1 : Int32)).toNatClampNeg)) ∧ ((¬ ((v4 + 2 : Int32) < 0 ∨ L ≤ ((v4 + 2 : Int32)).toNatClampNeg)) ∧ ((¬ ((v4 + 3 : Int32) < 0 ∨ L ≤ ((v4 + 3 : Int32)).toNatClampNeg)) ∧ (∃ x899 ρ899, R_M_chain (xs ((v4 + 1 : Int32)).toNatClampNeg) (xs ((v4 + 2 : Int32)).toNatClampNeg) (xs ((v4 + 3 : Int32)).toNatClampNeg) ρ = some (x899, ρ899) ∧ mW μ ≤ b ∧ (∃ x905, R_M_thrown  ρ899 = some x905 ∧ (((x905 = s0) → (((s0 = 0) → (∃ x922, aL (ov b ρ899 μ) v3 1 0 = some x922 ∧ ((((lg_cmp x922 ((x899 : Int32).toInt64)) = 0) → (LB_932 xs L v1 v3 b k23 v4 (ρ899) μ)) ∧ (¬ ((lg_cmp x922 ((x899 : Int32).toInt64)) = 0) → ((0 : Int32) = 1))))) ∧ (¬ (s0 = 0) → (LB_932 xs L v1 v3 b k23 v4 (ρ899) μ)))) ∧ (¬ (x905 = s0) → ((0 : Int32) = 1)))))))
set_option maxHeartbeats 8000000 in
set_option maxRecDepth 100000 in
theorem lw_878 {X : CX} (E : EV X code 7 "PlaceFinderLaw" ret) {sb : Nat} {xs : Nat → Int32} {L : Nat} {v1 v3 : Option Nat} {b : Nat} (hS : SX X sb L xs) (hR : xR X = room_1) (hLR : LR X) (hLF : LF (xl X)) (kc ks : Nat) (hkc : kc ≤ 601024) (hks : ks ≤ 7293034) (k23 : Int32 → RS → Mem → Prop) (hk : ∀ (v4 : Int32) (ρ : RS) (μ : Mem), k23 v4 ρ μ → WM X 7 23 [(0, vR (some sb)), (1, vR v1), (2, vR (some b)), (3, vR v3), (4, vI v4)] [] kc ks (ov b ρ μ)) (v4 : Int32) (s0 : Int32) (ρ : RS) (μ : Mem) (h : LB_878 xs L v1 v3 b k23 v4 s0 ρ μ) : WM X 7 878 [(0, vR (some sb)), (1, vR v1), (2, vR (some b)), (3, vR v3), (4, vI v4)] [vI s0] kc ks (ov b ρ μ) := by
  have h : (¬ ((v4 + 1 : Int32) < 0 ∨ L ≤ ((v4 + 1 : Int32)).toNatClampNeg)) ∧ ((¬ ((v4 + 2 : Int32) < 0 ∨ L ≤ ((v4 + 2 : Int32)).toNatClampNeg)) ∧ ((¬ ((v4 + 3 : Int32) < 0 ∨ L ≤ ((v4 + 3 : Int32)).toNatClampNeg)) ∧ (∃ x899 ρ899, R_M_chain (xs ((v4 + 1 : Int32)).toNatClampNeg) (xs ((v4 + 2 : Int32)).toNatClampNeg) (xs ((v4 + 3 : Int32)).toNatClampNeg) ρ = some (x899, ρ899) ∧ mW μ ≤ b ∧ (∃ x905, R_M_thrown  ρ899 = some x905 ∧ (((x905 = s0) → (((s0 = 0) → (∃ x922, aL (ov b ρ899 μ) v3 1 0 = some x922 ∧ ((((lg_cmp x922 ((x899 : Int32).toInt64)) = 0) → (LB_932 xs L v1 v3 b k23 v4 (ρ899) μ)) ∧ (¬ ((lg_cmp x922 ((x899 : Int32).toInt64)) = 0) → ((0 : Int32) = 1))))) ∧ (¬ (s0 = 0) → (LB_932 xs L v1 v3 b k23 v4 (ρ899) μ)))) ∧ (¬ (x905 = s0) → ((0 : Int32) = 1))))))) := h
  refine wm_istore (lv' := [(5, vI s0), (0, vR (some sb)), (1, vR v1), (2, vR (some b)), (3, vR v3), (4, vI v4)]) E dL_law_878 (by decide) rfl ?_
  refine wm_aload_n E dL_law_880 rfl (j := 3) rfl ?_
  refine wm_aload_n E dL_law_881 rfl (j := 1) rfl ?_
  refine wm_iload E dL_law_882 (j := 5) rfl ?_
  refine wm_iconst (x := 1) E dL_law_884 (by decide) ?_
  refine wm_iadd E dL_law_885 ?_
  obtain ⟨hi886, h⟩ := h
  refine wm_sld E hS hi886 dL_law_886 ?_
  refine wm_aload_n E dL_law_887 rfl (j := 1) rfl ?_
  refine wm_iload E dL_law_888 (j := 5) rfl ?_
  refine wm_iconst (x := 2) E dL_law_890 (by decide) ?_
  refine wm_iadd E dL_law_891 ?_
  obtain ⟨hi892, h⟩ := h
  refine wm_sld E hS hi892 dL_law_892 ?_
  refine wm_aload_n E dL_law_893 rfl (j := 1) rfl ?_
  refine wm_iload E dL_law_894 (j := 5) rfl ?_
  refine wm_iconst (x := 3) E dL_law_896 (by decide) ?_
  refine wm_iadd E dL_law_897 ?_
  obtain ⟨hi898, h⟩ := h
  refine wm_sld E hS hi898 dL_law_898 ?_
  obtain ⟨x899, ρ899, hc899, hW899, h⟩ := h
  refine wm_cV (ci := 12) (As := [vI (xs ((v4 + 1 : Int32)).toNatClampNeg), vI (xs ((v4 + 2 : Int32)).toNatClampNeg), vI (xs ((v4 + 3 : Int32)).toNatClampNeg)]) (st := []) E lk_L_138 rfl im_M_chain sl_M_chain (ov_rc _ _ _) (RC_M_chain (xl X) X.1 b ρ μ hW899 (xs ((v4 + 1 : Int32)).toNatClampNeg) (xs ((v4 + 2 : Int32)).toNatClampNeg) (xs ((v4 + 3 : Int32)).toNatClampNeg) _ _ hc899) rfl rfl (by rw [hR]; decide) (by rw [hR]; exact ⟨show kc + 0 ≤ 601024 by omega, show ks + 0 ≤ 7293034 by omega⟩) (Nat.le_of_ble_eq_true rfl) dL_law_899 ?_
  refine wm_istore (lv' := [(6, vI x899), (5, vI s0), (0, vR (some sb)), (1, vR v1), (2, vR (some b)), (3, vR v3), (4, vI v4)]) E dL_law_902 (by decide) rfl ?_
  refine wm_aload_n E dL_law_904 rfl (j := 4) rfl ?_
  obtain ⟨x905, hc905, h⟩ := h
  refine wm_cV (ci := 12) (As := []) (st := []) E lk_L_85 rfl im_M_thrown sl_M_thrown (ov_rc _ _ _) (RC_M_thrown (xl X) X.1 b ρ899 μ  _ hc905) rfl rfl (by rw [hR]; decide) (by rw [hR]; exact ⟨show kc + 0 ≤ 601024 by omega, show ks + 0 ≤ 7293034 by omega⟩) (Nat.le_of_ble_eq_true rfl) dL_law_905 ?_
  refine wm_iload E dL_law_908 (j := 1) rfl ?_
  refine wm_icmp_eq (tgt := 915) E dL_law_910 (by decide) (fun c910 => ?_) (fun c910 => ?_)
  · have h := h.1 c910
    refine wm_iload E dL_law_915 (j := 1) rfl ?_
    refine wm_if_ne (tgt := 932) E dL_law_917 (by decide) (fun c917 => ?_) (fun c917 => ?_)
    · have h := h.2 c917
      refine wm_pick (lv' := [(0, vR (some sb)), (1, vR v1), (2, vR (some b)), (3, vR v3), (4, vI v4)]) [2, 3, 4, 5, 6] rfl ?_
      exact lw_932 E hS hR hLR hLF kc ks hkc hks k23 hk v4 (ρ899) μ h
    · have h := h.1 c917
      refine wm_aload_n E dL_law_920 rfl (j := 5) rfl ?_
      refine wm_iconst (x := 0) E dL_law_921 (by decide) ?_
      obtain ⟨x922, hl922, h⟩ := h
      refine wm_lald (t := 1) (β := Int64) (res := x922) (F := some) E rfl (by rw [hl922]; rfl) dL_law_922 (fun y922 hy922 => ?_)
      cases hy922
      refine wm_iload E dL_law_923 (j := 0) rfl ?_
      refine wm_i2l E dL_law_925 ?_
      refine wm_lcmp E dL_law_926 ?_
      refine wm_if_eq (tgt := 932) E dL_law_927 (by decide) (fun c927 => ?_) (fun c927 => ?_)
      · have h := h.1 c927
        refine wm_pick (lv' := [(0, vR (some sb)), (1, vR v1), (2, vR (some b)), (3, vR v3), (4, vI v4)]) [2, 3, 4, 5, 6] rfl ?_
        exact lw_932 E hS hR hLR hLF kc ks hkc hks k23 hk v4 (ρ899) μ h
      · have h := h.2 c927
        refine wm_iconst (x := 0) E dL_law_930 (by decide) ?_
        exact wm_lawret hLR h (by omega) (by omega) dL_law_931
  · have h := h.2 c910
    refine wm_iconst (x := 0) E dL_law_913 (by decide) ?_
    exact wm_lawret hLR h (by omega) (by omega) dL_law_914
def LB_1024 (xs : Nat → Int32) (L : Nat) (v1 v3 : Option Nat) (b : Nat) (k23 : Int32 → RS → Mem → Prop) (v4 : Int32)  (ρ : RS) (μ : Mem) : Prop := LB_1268 xs L v1 v3 b k23 v4 (ρ) μ
set_option maxHeartbeats 8000000 in
set_option maxRecDepth 100000 in
theorem lw_1024 {X : CX} (E : EV X code 7 "PlaceFinderLaw" ret) {sb : Nat} {xs : Nat → Int32} {L : Nat} {v1 v3 : Option Nat} {b : Nat} (hS : SX X sb L xs) (hR : xR X = room_1) (hLR : LR X) (hLF : LF (xl X)) (kc ks : Nat) (hkc : kc ≤ 601024) (hks : ks ≤ 7293034) (k23 : Int32 → RS → Mem → Prop) (hk : ∀ (v4 : Int32) (ρ : RS) (μ : Mem), k23 v4 ρ μ → WM X 7 23 [(0, vR (some sb)), (1, vR v1), (2, vR (some b)), (3, vR v3), (4, vI v4)] [] kc ks (ov b ρ μ)) (v4 : Int32)  (ρ : RS) (μ : Mem) (h : LB_1024 xs L v1 v3 b k23 v4 ρ μ) : WM X 7 1024 [(0, vR (some sb)), (1, vR v1), (2, vR (some b)), (3, vR v3), (4, vI v4)] [] kc ks (ov b ρ μ) := by
  have h : LB_1268 xs L v1 v3 b k23 v4 (ρ) μ := h
  refine wm_goto (tgt := 1268) E dL_law_1024 (by decide) ?_
  refine wm_pick (lv' := [(0, vR (some sb)), (1, vR v1), (2, vR (some b)), (3, vR v3), (4, vI v4)]) [0, 1, 2, 3, 4] rfl ?_
  exact lw_1268 E hS hR hLR hLF kc ks hkc hks k23 hk v4 (ρ) μ h
def LB_964 (xs : Nat → Int32) (L : Nat) (v1 v3 : Option Nat) (b : Nat) (k23 : Int32 → RS → Mem → Prop) (v4 : Int32) (s0 : Int32) (ρ : RS) (μ : Mem) : Prop := (¬ ((v4 + 1 : Int32) < 0 ∨ L ≤ ((v4 + 1 : Int32)).toNatClampNeg)) ∧ ((¬ ((v4 + 2 : Int32) < 0 ∨ L ≤ ((v4 + 2 : Int32)).toNatClampNeg)) ∧ ((¬ ((v4 + 3 : Int32) < 0 ∨ L ≤ ((v4 + 3 : Int32)).toNatClampNeg)) ∧ ((¬ ((v4 + 4 : Int32) < 0 ∨ L ≤ ((v4 + 4 : Int32)).toNatClampNeg)) ∧ (∃ x991 ρ991, R_M_holds (xs ((v4 + 1 : Int32)).toNatClampNeg) (xs ((v4 + 2 : Int32)).toNatClampNeg) (xs ((v4 + 3 : Int32)).toNatClampNeg) (xs ((v4 + 4 : Int32)).toNatClampNeg) ρ = some (x991, ρ991) ∧ mW μ ≤ b ∧ (∃ x997, R_M_thrown  ρ991 = some x997 ∧ (((x997 = s0) → (((s0 = 0) → (∃ x1014, aL (ov b ρ991 μ) v3 1 0 = some x1014 ∧ ((((lg_cmp x1014 ((x991 : Int32).toInt64)) = 0) → (LB_1024 xs L v1 v3 b k23 v4 (ρ991) μ)) ∧ (¬ ((lg_cmp x1014 ((x991 : Int32).toInt64)) = 0) → ((0 : Int32) = 1))))) ∧ (¬ (s0 = 0) → (LB_1024 xs L v1 v3 b k23 v4 (ρ991) μ)))) ∧ (¬ (x997 = s0) → ((0 : Int32) = 1))))))))
set_option maxHeartbeats 8000000 in
set_option maxRecDepth 100000 in
theorem lw_964 {X : CX} (E : EV X code 7 "PlaceFinderLaw" ret) {sb : Nat} {xs : Nat → Int32} {L : Nat} {v1 v3 : Option Nat} {b : Nat} (hS : SX X sb L xs) (hR : xR X = room_1) (hLR : LR X) (hLF : LF (xl X)) (kc ks : Nat) (hkc : kc ≤ 601024) (hks : ks ≤ 7293034) (k23 : Int32 → RS → Mem → Prop) (hk : ∀ (v4 : Int32) (ρ : RS) (μ : Mem), k23 v4 ρ μ → WM X 7 23 [(0, vR (some sb)), (1, vR v1), (2, vR (some b)), (3, vR v3), (4, vI v4)] [] kc ks (ov b ρ μ)) (v4 : Int32) (s0 : Int32) (ρ : RS) (μ : Mem) (h : LB_964 xs L v1 v3 b k23 v4 s0 ρ μ) : WM X 7 964 [(0, vR (some sb)), (1, vR v1), (2, vR (some b)), (3, vR v3), (4, vI v4)] [vI s0] kc ks (ov b ρ μ) := by
  have h : (¬ ((v4 + 1 : Int32) < 0 ∨ L ≤ ((v4 + 1 : Int32)).toNatClampNeg)) ∧ ((¬ ((v4 + 2 : Int32) < 0 ∨ L ≤ ((v4 + 2 : Int32)).toNatClampNeg)) ∧ ((¬ ((v4 + 3 : Int32) < 0 ∨ L ≤ ((v4 + 3 : Int32)).toNatClampNeg)) ∧ ((¬ ((v4 + 4 : Int32) < 0 ∨ L ≤ ((v4 + 4 : Int32)).toNatClampNeg)) ∧ (∃ x991 ρ991, R_M_holds (xs ((v4 + 1 : Int32)).toNatClampNeg) (xs ((v4 + 2 : Int32)).toNatClampNeg) (xs ((v4 + 3 : Int32)).toNatClampNeg) (xs ((v4 + 4 : Int32)).toNatClampNeg) ρ = some (x991, ρ991) ∧ mW μ ≤ b ∧ (∃ x997, R_M_thrown  ρ991 = some x997 ∧ (((x997 = s0) → (((s0 = 0) → (∃ x1014, aL (ov b ρ991 μ) v3 1 0 = some x1014 ∧ ((((lg_cmp x1014 ((x991 : Int32).toInt64)) = 0) → (LB_1024 xs L v1 v3 b k23 v4 (ρ991) μ)) ∧ (¬ ((lg_cmp x1014 ((x991 : Int32).toInt64)) = 0) → ((0 : Int32) = 1))))) ∧ (¬ (s0 = 0) → (LB_1024 xs L v1 v3 b k23 v4 (ρ991) μ)))) ∧ (¬ (x997 = s0) → ((0 : Int32) = 1)))))))) := h
  refine wm_istore (lv' := [(5, vI s0), (0, vR (some sb)), (1, vR v1), (2, vR (some b)), (3, vR v3), (4, vI v4)]) E dL_law_964 (by decide) rfl ?_
  refine wm_aload_n E dL_law_966 rfl (j := 3) rfl ?_
  refine wm_aload_n E dL_law_967 rfl (j := 1) rfl ?_
  refine wm_iload E dL_law_968 (j := 5) rfl ?_
  refine wm_iconst (x := 1) E dL_law_970 (by decide) ?_
  refine wm_iadd E dL_law_971 ?_
  obtain ⟨hi972, h⟩ := h
  refine wm_sld E hS hi972 dL_law_972 ?_
  refine wm_aload_n E dL_law_973 rfl (j := 1) rfl ?_
  refine wm_iload E dL_law_974 (j := 5) rfl ?_
  refine wm_iconst (x := 2) E dL_law_976 (by decide) ?_
  refine wm_iadd E dL_law_977 ?_
  obtain ⟨hi978, h⟩ := h
  refine wm_sld E hS hi978 dL_law_978 ?_
  refine wm_aload_n E dL_law_979 rfl (j := 1) rfl ?_
  refine wm_iload E dL_law_980 (j := 5) rfl ?_
  refine wm_iconst (x := 3) E dL_law_982 (by decide) ?_
  refine wm_iadd E dL_law_983 ?_
  obtain ⟨hi984, h⟩ := h
  refine wm_sld E hS hi984 dL_law_984 ?_
  refine wm_aload_n E dL_law_985 rfl (j := 1) rfl ?_
  refine wm_iload E dL_law_986 (j := 5) rfl ?_
  refine wm_iconst (x := 4) E dL_law_988 (by decide) ?_
  refine wm_iadd E dL_law_989 ?_
  obtain ⟨hi990, h⟩ := h
  refine wm_sld E hS hi990 dL_law_990 ?_
  obtain ⟨x991, ρ991, hc991, hW991, h⟩ := h
  refine wm_cV (ci := 12) (As := [vI (xs ((v4 + 1 : Int32)).toNatClampNeg), vI (xs ((v4 + 2 : Int32)).toNatClampNeg), vI (xs ((v4 + 3 : Int32)).toNatClampNeg), vI (xs ((v4 + 4 : Int32)).toNatClampNeg)]) (st := []) E lk_L_141 rfl im_M_holds sl_M_holds (ov_rc _ _ _) (RC_M_holds (xl X) X.1 b ρ μ hW991 (xs ((v4 + 1 : Int32)).toNatClampNeg) (xs ((v4 + 2 : Int32)).toNatClampNeg) (xs ((v4 + 3 : Int32)).toNatClampNeg) (xs ((v4 + 4 : Int32)).toNatClampNeg) _ _ hc991) rfl rfl (by rw [hR]; decide) (by rw [hR]; exact ⟨show kc + 0 ≤ 601024 by omega, show ks + 0 ≤ 7293034 by omega⟩) (Nat.le_of_ble_eq_true rfl) dL_law_991 ?_
  refine wm_istore (lv' := [(6, vI x991), (5, vI s0), (0, vR (some sb)), (1, vR v1), (2, vR (some b)), (3, vR v3), (4, vI v4)]) E dL_law_994 (by decide) rfl ?_
  refine wm_aload_n E dL_law_996 rfl (j := 4) rfl ?_
  obtain ⟨x997, hc997, h⟩ := h
  refine wm_cV (ci := 12) (As := []) (st := []) E lk_L_85 rfl im_M_thrown sl_M_thrown (ov_rc _ _ _) (RC_M_thrown (xl X) X.1 b ρ991 μ  _ hc997) rfl rfl (by rw [hR]; decide) (by rw [hR]; exact ⟨show kc + 0 ≤ 601024 by omega, show ks + 0 ≤ 7293034 by omega⟩) (Nat.le_of_ble_eq_true rfl) dL_law_997 ?_
  refine wm_iload E dL_law_1000 (j := 1) rfl ?_
  refine wm_icmp_eq (tgt := 1007) E dL_law_1002 (by decide) (fun c1002 => ?_) (fun c1002 => ?_)
  · have h := h.1 c1002
    refine wm_iload E dL_law_1007 (j := 1) rfl ?_
    refine wm_if_ne (tgt := 1024) E dL_law_1009 (by decide) (fun c1009 => ?_) (fun c1009 => ?_)
    · have h := h.2 c1009
      refine wm_pick (lv' := [(0, vR (some sb)), (1, vR v1), (2, vR (some b)), (3, vR v3), (4, vI v4)]) [2, 3, 4, 5, 6] rfl ?_
      exact lw_1024 E hS hR hLR hLF kc ks hkc hks k23 hk v4 (ρ991) μ h
    · have h := h.1 c1009
      refine wm_aload_n E dL_law_1012 rfl (j := 5) rfl ?_
      refine wm_iconst (x := 0) E dL_law_1013 (by decide) ?_
      obtain ⟨x1014, hl1014, h⟩ := h
      refine wm_lald (t := 1) (β := Int64) (res := x1014) (F := some) E rfl (by rw [hl1014]; rfl) dL_law_1014 (fun y1014 hy1014 => ?_)
      cases hy1014
      refine wm_iload E dL_law_1015 (j := 0) rfl ?_
      refine wm_i2l E dL_law_1017 ?_
      refine wm_lcmp E dL_law_1018 ?_
      refine wm_if_eq (tgt := 1024) E dL_law_1019 (by decide) (fun c1019 => ?_) (fun c1019 => ?_)
      · have h := h.1 c1019
        refine wm_pick (lv' := [(0, vR (some sb)), (1, vR v1), (2, vR (some b)), (3, vR v3), (4, vI v4)]) [2, 3, 4, 5, 6] rfl ?_
        exact lw_1024 E hS hR hLR hLF kc ks hkc hks k23 hk v4 (ρ991) μ h
      · have h := h.2 c1019
        refine wm_iconst (x := 0) E dL_law_1022 (by decide) ?_
        exact wm_lawret hLR h (by omega) (by omega) dL_law_1023
  · have h := h.2 c1002
    refine wm_iconst (x := 0) E dL_law_1005 (by decide) ?_
    exact wm_lawret hLR h (by omega) (by omega) dL_law_1006
def LB_1105 (xs : Nat → Int32) (L : Nat) (v1 v3 : Option Nat) (b : Nat) (k23 : Int32 → RS → Mem → Prop) (v4 : Int32)  (ρ : RS) (μ : Mem) : Prop := LB_1268 xs L v1 v3 b k23 v4 (ρ) μ
set_option maxHeartbeats 8000000 in
set_option maxRecDepth 100000 in
theorem lw_1105 {X : CX} (E : EV X code 7 "PlaceFinderLaw" ret) {sb : Nat} {xs : Nat → Int32} {L : Nat} {v1 v3 : Option Nat} {b : Nat} (hS : SX X sb L xs) (hR : xR X = room_1) (hLR : LR X) (hLF : LF (xl X)) (kc ks : Nat) (hkc : kc ≤ 601024) (hks : ks ≤ 7293034) (k23 : Int32 → RS → Mem → Prop) (hk : ∀ (v4 : Int32) (ρ : RS) (μ : Mem), k23 v4 ρ μ → WM X 7 23 [(0, vR (some sb)), (1, vR v1), (2, vR (some b)), (3, vR v3), (4, vI v4)] [] kc ks (ov b ρ μ)) (v4 : Int32)  (ρ : RS) (μ : Mem) (h : LB_1105 xs L v1 v3 b k23 v4 ρ μ) : WM X 7 1105 [(0, vR (some sb)), (1, vR v1), (2, vR (some b)), (3, vR v3), (4, vI v4)] [] kc ks (ov b ρ μ) := by
  have h : LB_1268 xs L v1 v3 b k23 v4 (ρ) μ := h
  refine wm_goto (tgt := 1268) E dL_law_1105 (by decide) ?_
  refine wm_pick (lv' := [(0, vR (some sb)), (1, vR v1), (2, vR (some b)), (3, vR v3), (4, vI v4)]) [0, 1, 2, 3, 4] rfl ?_
  exact lw_1268 E hS hR hLR hLF kc ks hkc hks k23 hk v4 (ρ) μ h
def LB_1057 (xs : Nat → Int32) (L : Nat) (v1 v3 : Option Nat) (b : Nat) (k23 : Int32 → RS → Mem → Prop) (v4 : Int32) (s0 : Int32) (ρ : RS) (μ : Mem) : Prop := (¬ ((v4 + 1 : Int32) < 0 ∨ L ≤ ((v4 + 1 : Int32)).toNatClampNeg)) ∧ ((¬ ((v4 + 2 : Int32) < 0 ∨ L ≤ ((v4 + 2 : Int32)).toNatClampNeg)) ∧ (∃ x1072 ρ1072, R_M_errors (xs ((v4 + 1 : Int32)).toNatClampNeg) (xs ((v4 + 2 : Int32)).toNatClampNeg) ρ = some (x1072, ρ1072) ∧ mW μ ≤ b ∧ (∃ x1078, R_M_thrown  ρ1072 = some x1078 ∧ (((x1078 = s0) → (((s0 = 0) → (∃ x1095, aL (ov b ρ1072 μ) v3 1 0 = some x1095 ∧ ((((lg_cmp x1095 ((x1072 : Int32).toInt64)) = 0) → (LB_1105 xs L v1 v3 b k23 v4 (ρ1072) μ)) ∧ (¬ ((lg_cmp x1095 ((x1072 : Int32).toInt64)) = 0) → ((0 : Int32) = 1))))) ∧ (¬ (s0 = 0) → (LB_1105 xs L v1 v3 b k23 v4 (ρ1072) μ)))) ∧ (¬ (x1078 = s0) → ((0 : Int32) = 1))))))
set_option maxHeartbeats 8000000 in
set_option maxRecDepth 100000 in
theorem lw_1057 {X : CX} (E : EV X code 7 "PlaceFinderLaw" ret) {sb : Nat} {xs : Nat → Int32} {L : Nat} {v1 v3 : Option Nat} {b : Nat} (hS : SX X sb L xs) (hR : xR X = room_1) (hLR : LR X) (hLF : LF (xl X)) (kc ks : Nat) (hkc : kc ≤ 601024) (hks : ks ≤ 7293034) (k23 : Int32 → RS → Mem → Prop) (hk : ∀ (v4 : Int32) (ρ : RS) (μ : Mem), k23 v4 ρ μ → WM X 7 23 [(0, vR (some sb)), (1, vR v1), (2, vR (some b)), (3, vR v3), (4, vI v4)] [] kc ks (ov b ρ μ)) (v4 : Int32) (s0 : Int32) (ρ : RS) (μ : Mem) (h : LB_1057 xs L v1 v3 b k23 v4 s0 ρ μ) : WM X 7 1057 [(0, vR (some sb)), (1, vR v1), (2, vR (some b)), (3, vR v3), (4, vI v4)] [vI s0] kc ks (ov b ρ μ) := by
  have h : (¬ ((v4 + 1 : Int32) < 0 ∨ L ≤ ((v4 + 1 : Int32)).toNatClampNeg)) ∧ ((¬ ((v4 + 2 : Int32) < 0 ∨ L ≤ ((v4 + 2 : Int32)).toNatClampNeg)) ∧ (∃ x1072 ρ1072, R_M_errors (xs ((v4 + 1 : Int32)).toNatClampNeg) (xs ((v4 + 2 : Int32)).toNatClampNeg) ρ = some (x1072, ρ1072) ∧ mW μ ≤ b ∧ (∃ x1078, R_M_thrown  ρ1072 = some x1078 ∧ (((x1078 = s0) → (((s0 = 0) → (∃ x1095, aL (ov b ρ1072 μ) v3 1 0 = some x1095 ∧ ((((lg_cmp x1095 ((x1072 : Int32).toInt64)) = 0) → (LB_1105 xs L v1 v3 b k23 v4 (ρ1072) μ)) ∧ (¬ ((lg_cmp x1095 ((x1072 : Int32).toInt64)) = 0) → ((0 : Int32) = 1))))) ∧ (¬ (s0 = 0) → (LB_1105 xs L v1 v3 b k23 v4 (ρ1072) μ)))) ∧ (¬ (x1078 = s0) → ((0 : Int32) = 1)))))) := h
  refine wm_istore (lv' := [(5, vI s0), (0, vR (some sb)), (1, vR v1), (2, vR (some b)), (3, vR v3), (4, vI v4)]) E dL_law_1057 (by decide) rfl ?_
  refine wm_aload_n E dL_law_1059 rfl (j := 3) rfl ?_
  refine wm_aload_n E dL_law_1060 rfl (j := 1) rfl ?_
  refine wm_iload E dL_law_1061 (j := 5) rfl ?_
  refine wm_iconst (x := 1) E dL_law_1063 (by decide) ?_
  refine wm_iadd E dL_law_1064 ?_
  obtain ⟨hi1065, h⟩ := h
  refine wm_sld E hS hi1065 dL_law_1065 ?_
  refine wm_aload_n E dL_law_1066 rfl (j := 1) rfl ?_
  refine wm_iload E dL_law_1067 (j := 5) rfl ?_
  refine wm_iconst (x := 2) E dL_law_1069 (by decide) ?_
  refine wm_iadd E dL_law_1070 ?_
  obtain ⟨hi1071, h⟩ := h
  refine wm_sld E hS hi1071 dL_law_1071 ?_
  obtain ⟨x1072, ρ1072, hc1072, hW1072, h⟩ := h
  refine wm_cV (ci := 12) (As := [vI (xs ((v4 + 1 : Int32)).toNatClampNeg), vI (xs ((v4 + 2 : Int32)).toNatClampNeg)]) (st := []) E lk_L_148 rfl im_M_errors sl_M_errors (ov_rc _ _ _) (RC_M_errors (xl X) X.1 b ρ μ hW1072 (xs ((v4 + 1 : Int32)).toNatClampNeg) (xs ((v4 + 2 : Int32)).toNatClampNeg) _ _ hc1072) rfl rfl (by rw [hR]; decide) (by rw [hR]; exact ⟨show kc + 0 ≤ 601024 by omega, show ks + 0 ≤ 7293034 by omega⟩) (Nat.le_of_ble_eq_true rfl) dL_law_1072 ?_
  refine wm_istore (lv' := [(6, vI x1072), (5, vI s0), (0, vR (some sb)), (1, vR v1), (2, vR (some b)), (3, vR v3), (4, vI v4)]) E dL_law_1075 (by decide) rfl ?_
  refine wm_aload_n E dL_law_1077 rfl (j := 4) rfl ?_
  obtain ⟨x1078, hc1078, h⟩ := h
  refine wm_cV (ci := 12) (As := []) (st := []) E lk_L_85 rfl im_M_thrown sl_M_thrown (ov_rc _ _ _) (RC_M_thrown (xl X) X.1 b ρ1072 μ  _ hc1078) rfl rfl (by rw [hR]; decide) (by rw [hR]; exact ⟨show kc + 0 ≤ 601024 by omega, show ks + 0 ≤ 7293034 by omega⟩) (Nat.le_of_ble_eq_true rfl) dL_law_1078 ?_
  refine wm_iload E dL_law_1081 (j := 1) rfl ?_
  refine wm_icmp_eq (tgt := 1088) E dL_law_1083 (by decide) (fun c1083 => ?_) (fun c1083 => ?_)
  · have h := h.1 c1083
    refine wm_iload E dL_law_1088 (j := 1) rfl ?_
    refine wm_if_ne (tgt := 1105) E dL_law_1090 (by decide) (fun c1090 => ?_) (fun c1090 => ?_)
    · have h := h.2 c1090
      refine wm_pick (lv' := [(0, vR (some sb)), (1, vR v1), (2, vR (some b)), (3, vR v3), (4, vI v4)]) [2, 3, 4, 5, 6] rfl ?_
      exact lw_1105 E hS hR hLR hLF kc ks hkc hks k23 hk v4 (ρ1072) μ h
    · have h := h.1 c1090
      refine wm_aload_n E dL_law_1093 rfl (j := 5) rfl ?_
      refine wm_iconst (x := 0) E dL_law_1094 (by decide) ?_
      obtain ⟨x1095, hl1095, h⟩ := h
      refine wm_lald (t := 1) (β := Int64) (res := x1095) (F := some) E rfl (by rw [hl1095]; rfl) dL_law_1095 (fun y1095 hy1095 => ?_)
      cases hy1095
      refine wm_iload E dL_law_1096 (j := 0) rfl ?_
      refine wm_i2l E dL_law_1098 ?_
      refine wm_lcmp E dL_law_1099 ?_
      refine wm_if_eq (tgt := 1105) E dL_law_1100 (by decide) (fun c1100 => ?_) (fun c1100 => ?_)
      · have h := h.1 c1100
        refine wm_pick (lv' := [(0, vR (some sb)), (1, vR v1), (2, vR (some b)), (3, vR v3), (4, vI v4)]) [2, 3, 4, 5, 6] rfl ?_
        exact lw_1105 E hS hR hLR hLF kc ks hkc hks k23 hk v4 (ρ1072) μ h
      · have h := h.2 c1100
        refine wm_iconst (x := 0) E dL_law_1103 (by decide) ?_
        exact wm_lawret hLR h (by omega) (by omega) dL_law_1104
  · have h := h.2 c1083
    refine wm_iconst (x := 0) E dL_law_1086 (by decide) ?_
    exact wm_lawret hLR h (by omega) (by omega) dL_law_1087
def LB_1124 (xs : Nat → Int32) (L : Nat) (v1 v3 : Option Nat) (b : Nat) (k23 : Int32 → RS → Mem → Prop) (v4 : Int32) (s0 : Int32) (ρ : RS) (μ : Mem) : Prop := (¬ ((v4 + 1 : Int32) < 0 ∨ L ≤ ((v4 + 1 : Int32)).toNatClampNeg)) ∧ ((¬ ((v4 + 2 : Int32) < 0 ∨ L ≤ ((v4 + 2 : Int32)).toNatClampNeg)) ∧ (∃ x1139 ρ1139, R_M_watch (xs ((v4 + 1 : Int32)).toNatClampNeg) (xs ((v4 + 2 : Int32)).toNatClampNeg) ρ = some (x1139, ρ1139) ∧ mW μ ≤ b ∧ (∃ x1143, R_M_thrown  ρ1139 = some x1143 ∧ (((x1143 = s0) → (LB_1268 xs L v1 v3 b k23 v4 (ρ1139) μ)) ∧ (¬ (x1143 = s0) → ((0 : Int32) = 1))))))
set_option maxHeartbeats 8000000 in
set_option maxRecDepth 100000 in
theorem lw_1124 {X : CX} (E : EV X code 7 "PlaceFinderLaw" ret) {sb : Nat} {xs : Nat → Int32} {L : Nat} {v1 v3 : Option Nat} {b : Nat} (hS : SX X sb L xs) (hR : xR X = room_1) (hLR : LR X) (hLF : LF (xl X)) (kc ks : Nat) (hkc : kc ≤ 601024) (hks : ks ≤ 7293034) (k23 : Int32 → RS → Mem → Prop) (hk : ∀ (v4 : Int32) (ρ : RS) (μ : Mem), k23 v4 ρ μ → WM X 7 23 [(0, vR (some sb)), (1, vR v1), (2, vR (some b)), (3, vR v3), (4, vI v4)] [] kc ks (ov b ρ μ)) (v4 : Int32) (s0 : Int32) (ρ : RS) (μ : Mem) (h : LB_1124 xs L v1 v3 b k23 v4 s0 ρ μ) : WM X 7 1124 [(0, vR (some sb)), (1, vR v1), (2, vR (some b)), (3, vR v3), (4, vI v4)] [vI s0] kc ks (ov b ρ μ) := by
  have h : (¬ ((v4 + 1 : Int32) < 0 ∨ L ≤ ((v4 + 1 : Int32)).toNatClampNeg)) ∧ ((¬ ((v4 + 2 : Int32) < 0 ∨ L ≤ ((v4 + 2 : Int32)).toNatClampNeg)) ∧ (∃ x1139 ρ1139, R_M_watch (xs ((v4 + 1 : Int32)).toNatClampNeg) (xs ((v4 + 2 : Int32)).toNatClampNeg) ρ = some (x1139, ρ1139) ∧ mW μ ≤ b ∧ (∃ x1143, R_M_thrown  ρ1139 = some x1143 ∧ (((x1143 = s0) → (LB_1268 xs L v1 v3 b k23 v4 (ρ1139) μ)) ∧ (¬ (x1143 = s0) → ((0 : Int32) = 1)))))) := h
  refine wm_istore (lv' := [(5, vI s0), (0, vR (some sb)), (1, vR v1), (2, vR (some b)), (3, vR v3), (4, vI v4)]) E dL_law_1124 (by decide) rfl ?_
  refine wm_aload_n E dL_law_1126 rfl (j := 3) rfl ?_
  refine wm_aload_n E dL_law_1127 rfl (j := 1) rfl ?_
  refine wm_iload E dL_law_1128 (j := 5) rfl ?_
  refine wm_iconst (x := 1) E dL_law_1130 (by decide) ?_
  refine wm_iadd E dL_law_1131 ?_
  obtain ⟨hi1132, h⟩ := h
  refine wm_sld E hS hi1132 dL_law_1132 ?_
  refine wm_aload_n E dL_law_1133 rfl (j := 1) rfl ?_
  refine wm_iload E dL_law_1134 (j := 5) rfl ?_
  refine wm_iconst (x := 2) E dL_law_1136 (by decide) ?_
  refine wm_iadd E dL_law_1137 ?_
  obtain ⟨hi1138, h⟩ := h
  refine wm_sld E hS hi1138 dL_law_1138 ?_
  obtain ⟨x1139, ρ1139, hc1139, hW1139, h⟩ := h
  refine wm_cV (ci := 12) (As := [vI (xs ((v4 + 1 : Int32)).toNatClampNeg), vI (xs ((v4 + 2 : Int32)).toNatClampNeg)]) (st := []) E lk_L_151 rfl im_M_watch sl_M_watch (ov_rc _ _ _) (RC_M_watch (xl X) X.1 b ρ μ hW1139 (xs ((v4 + 1 : Int32)).toNatClampNeg) (xs ((v4 + 2 : Int32)).toNatClampNeg) _ _ hc1139) rfl rfl (by rw [hR]; decide) (by rw [hR]; exact ⟨show kc + 0 ≤ 601024 by omega, show ks + 0 ≤ 7293034 by omega⟩) (Nat.le_of_ble_eq_true rfl) dL_law_1139 ?_
  refine wm_aload_n E dL_law_1142 rfl (j := 3) rfl ?_
  obtain ⟨x1143, hc1143, h⟩ := h
  refine wm_cV (ci := 12) (As := []) (st := []) E lk_L_85 rfl im_M_thrown sl_M_thrown (ov_rc _ _ _) (RC_M_thrown (xl X) X.1 b ρ1139 μ  _ hc1143) rfl rfl (by rw [hR]; decide) (by rw [hR]; exact ⟨show kc + 0 ≤ 601024 by omega, show ks + 0 ≤ 7293034 by omega⟩) (Nat.le_of_ble_eq_true rfl) dL_law_1143 ?_
  refine wm_iload E dL_law_1146 (j := 0) rfl ?_
  refine wm_icmp_eq (tgt := 1153) E dL_law_1148 (by decide) (fun c1148 => ?_) (fun c1148 => ?_)
  · have h := h.1 c1148
    refine wm_goto (tgt := 1268) E dL_law_1153 (by decide) ?_
    refine wm_pick (lv' := [(0, vR (some sb)), (1, vR v1), (2, vR (some b)), (3, vR v3), (4, vI v4)]) [1, 2, 3, 4, 5] rfl ?_
    exact lw_1268 E hS hR hLR hLF kc ks hkc hks k23 hk v4 (ρ1139) μ h
  · have h := h.2 c1148
    refine wm_iconst (x := 0) E dL_law_1151 (by decide) ?_
    exact wm_lawret hLR h (by omega) (by omega) dL_law_1152
def LB_1209 (xs : Nat → Int32) (L : Nat) (v1 v3 : Option Nat) (b : Nat) (k23 : Int32 → RS → Mem → Prop) (v4 : Int32)  (ρ : RS) (μ : Mem) : Prop := LB_1268 xs L v1 v3 b k23 v4 (ρ) μ
set_option maxHeartbeats 8000000 in
set_option maxRecDepth 100000 in
theorem lw_1209 {X : CX} (E : EV X code 7 "PlaceFinderLaw" ret) {sb : Nat} {xs : Nat → Int32} {L : Nat} {v1 v3 : Option Nat} {b : Nat} (hS : SX X sb L xs) (hR : xR X = room_1) (hLR : LR X) (hLF : LF (xl X)) (kc ks : Nat) (hkc : kc ≤ 601024) (hks : ks ≤ 7293034) (k23 : Int32 → RS → Mem → Prop) (hk : ∀ (v4 : Int32) (ρ : RS) (μ : Mem), k23 v4 ρ μ → WM X 7 23 [(0, vR (some sb)), (1, vR v1), (2, vR (some b)), (3, vR v3), (4, vI v4)] [] kc ks (ov b ρ μ)) (v4 : Int32)  (ρ : RS) (μ : Mem) (h : LB_1209 xs L v1 v3 b k23 v4 ρ μ) : WM X 7 1209 [(0, vR (some sb)), (1, vR v1), (2, vR (some b)), (3, vR v3), (4, vI v4)] [] kc ks (ov b ρ μ) := by
  have h : LB_1268 xs L v1 v3 b k23 v4 (ρ) μ := h
  refine wm_goto (tgt := 1268) E dL_law_1209 (by decide) ?_
  refine wm_pick (lv' := [(0, vR (some sb)), (1, vR v1), (2, vR (some b)), (3, vR v3), (4, vI v4)]) [0, 1, 2, 3, 4] rfl ?_
  exact lw_1268 E hS hR hLR hLF kc ks hkc hks k23 hk v4 (ρ) μ h
def LB_1167 (xs : Nat → Int32) (L : Nat) (v1 v3 : Option Nat) (b : Nat) (k23 : Int32 → RS → Mem → Prop) (v4 : Int32) (s0 : Int32) (ρ : RS) (μ : Mem) : Prop := (¬ ((v4 + 1 : Int32) < 0 ∨ L ≤ ((v4 + 1 : Int32)).toNatClampNeg)) ∧ (∃ x1176 ρ1176, R_M_news (xs ((v4 + 1 : Int32)).toNatClampNeg) ρ = some (x1176, ρ1176) ∧ mW μ ≤ b ∧ (∃ x1182, R_M_thrown  ρ1176 = some x1182 ∧ (((x1182 = s0) → (((s0 = 0) → (∃ x1199, aL (ov b ρ1176 μ) v3 1 0 = some x1199 ∧ ((((lg_cmp x1199 ((x1176 : Int32).toInt64)) = 0) → (LB_1209 xs L v1 v3 b k23 v4 (ρ1176) μ)) ∧ (¬ ((lg_cmp x1199 ((x1176 : Int32).toInt64)) = 0) → ((0 : Int32) = 1))))) ∧ (¬ (s0 = 0) → (LB_1209 xs L v1 v3 b k23 v4 (ρ1176) μ)))) ∧ (¬ (x1182 = s0) → ((0 : Int32) = 1)))))
set_option maxHeartbeats 8000000 in
set_option maxRecDepth 100000 in
theorem lw_1167 {X : CX} (E : EV X code 7 "PlaceFinderLaw" ret) {sb : Nat} {xs : Nat → Int32} {L : Nat} {v1 v3 : Option Nat} {b : Nat} (hS : SX X sb L xs) (hR : xR X = room_1) (hLR : LR X) (hLF : LF (xl X)) (kc ks : Nat) (hkc : kc ≤ 601024) (hks : ks ≤ 7293034) (k23 : Int32 → RS → Mem → Prop) (hk : ∀ (v4 : Int32) (ρ : RS) (μ : Mem), k23 v4 ρ μ → WM X 7 23 [(0, vR (some sb)), (1, vR v1), (2, vR (some b)), (3, vR v3), (4, vI v4)] [] kc ks (ov b ρ μ)) (v4 : Int32) (s0 : Int32) (ρ : RS) (μ : Mem) (h : LB_1167 xs L v1 v3 b k23 v4 s0 ρ μ) : WM X 7 1167 [(0, vR (some sb)), (1, vR v1), (2, vR (some b)), (3, vR v3), (4, vI v4)] [vI s0] kc ks (ov b ρ μ) := by
  have h : (¬ ((v4 + 1 : Int32) < 0 ∨ L ≤ ((v4 + 1 : Int32)).toNatClampNeg)) ∧ (∃ x1176 ρ1176, R_M_news (xs ((v4 + 1 : Int32)).toNatClampNeg) ρ = some (x1176, ρ1176) ∧ mW μ ≤ b ∧ (∃ x1182, R_M_thrown  ρ1176 = some x1182 ∧ (((x1182 = s0) → (((s0 = 0) → (∃ x1199, aL (ov b ρ1176 μ) v3 1 0 = some x1199 ∧ ((((lg_cmp x1199 ((x1176 : Int32).toInt64)) = 0) → (LB_1209 xs L v1 v3 b k23 v4 (ρ1176) μ)) ∧ (¬ ((lg_cmp x1199 ((x1176 : Int32).toInt64)) = 0) → ((0 : Int32) = 1))))) ∧ (¬ (s0 = 0) → (LB_1209 xs L v1 v3 b k23 v4 (ρ1176) μ)))) ∧ (¬ (x1182 = s0) → ((0 : Int32) = 1))))) := h
  refine wm_istore (lv' := [(5, vI s0), (0, vR (some sb)), (1, vR v1), (2, vR (some b)), (3, vR v3), (4, vI v4)]) E dL_law_1167 (by decide) rfl ?_
  refine wm_aload_n E dL_law_1169 rfl (j := 3) rfl ?_
  refine wm_aload_n E dL_law_1170 rfl (j := 1) rfl ?_
  refine wm_iload E dL_law_1171 (j := 5) rfl ?_
  refine wm_iconst (x := 1) E dL_law_1173 (by decide) ?_
  refine wm_iadd E dL_law_1174 ?_
  obtain ⟨hi1175, h⟩ := h
  refine wm_sld E hS hi1175 dL_law_1175 ?_
  obtain ⟨x1176, ρ1176, hc1176, hW1176, h⟩ := h
  refine wm_cV (ci := 12) (As := [vI (xs ((v4 + 1 : Int32)).toNatClampNeg)]) (st := []) E lk_L_154 rfl im_M_news sl_M_news (ov_rc _ _ _) (RC_M_news (xl X) X.1 b ρ μ hW1176 (xs ((v4 + 1 : Int32)).toNatClampNeg) _ _ hc1176) rfl rfl (by rw [hR]; decide) (by rw [hR]; exact ⟨show kc + 0 ≤ 601024 by omega, show ks + 0 ≤ 7293034 by omega⟩) (Nat.le_of_ble_eq_true rfl) dL_law_1176 ?_
  refine wm_istore (lv' := [(6, vI x1176), (5, vI s0), (0, vR (some sb)), (1, vR v1), (2, vR (some b)), (3, vR v3), (4, vI v4)]) E dL_law_1179 (by decide) rfl ?_
  refine wm_aload_n E dL_law_1181 rfl (j := 4) rfl ?_
  obtain ⟨x1182, hc1182, h⟩ := h
  refine wm_cV (ci := 12) (As := []) (st := []) E lk_L_85 rfl im_M_thrown sl_M_thrown (ov_rc _ _ _) (RC_M_thrown (xl X) X.1 b ρ1176 μ  _ hc1182) rfl rfl (by rw [hR]; decide) (by rw [hR]; exact ⟨show kc + 0 ≤ 601024 by omega, show ks + 0 ≤ 7293034 by omega⟩) (Nat.le_of_ble_eq_true rfl) dL_law_1182 ?_
  refine wm_iload E dL_law_1185 (j := 1) rfl ?_
  refine wm_icmp_eq (tgt := 1192) E dL_law_1187 (by decide) (fun c1187 => ?_) (fun c1187 => ?_)
  · have h := h.1 c1187
    refine wm_iload E dL_law_1192 (j := 1) rfl ?_
    refine wm_if_ne (tgt := 1209) E dL_law_1194 (by decide) (fun c1194 => ?_) (fun c1194 => ?_)
    · have h := h.2 c1194
      refine wm_pick (lv' := [(0, vR (some sb)), (1, vR v1), (2, vR (some b)), (3, vR v3), (4, vI v4)]) [2, 3, 4, 5, 6] rfl ?_
      exact lw_1209 E hS hR hLR hLF kc ks hkc hks k23 hk v4 (ρ1176) μ h
    · have h := h.1 c1194
      refine wm_aload_n E dL_law_1197 rfl (j := 5) rfl ?_
      refine wm_iconst (x := 0) E dL_law_1198 (by decide) ?_
      obtain ⟨x1199, hl1199, h⟩ := h
      refine wm_lald (t := 1) (β := Int64) (res := x1199) (F := some) E rfl (by rw [hl1199]; rfl) dL_law_1199 (fun y1199 hy1199 => ?_)
      cases hy1199
      refine wm_iload E dL_law_1200 (j := 0) rfl ?_
      refine wm_i2l E dL_law_1202 ?_
      refine wm_lcmp E dL_law_1203 ?_
      refine wm_if_eq (tgt := 1209) E dL_law_1204 (by decide) (fun c1204 => ?_) (fun c1204 => ?_)
      · have h := h.1 c1204
        refine wm_pick (lv' := [(0, vR (some sb)), (1, vR v1), (2, vR (some b)), (3, vR v3), (4, vI v4)]) [2, 3, 4, 5, 6] rfl ?_
        exact lw_1209 E hS hR hLR hLF kc ks hkc hks k23 hk v4 (ρ1176) μ h
      · have h := h.2 c1204
        refine wm_iconst (x := 0) E dL_law_1207 (by decide) ?_
        exact wm_lawret hLR h (by omega) (by omega) dL_law_1208
  · have h := h.2 c1187
    refine wm_iconst (x := 0) E dL_law_1190 (by decide) ?_
    exact wm_lawret hLR h (by omega) (by omega) dL_law_1191
def LB_1265 (xs : Nat → Int32) (L : Nat) (v1 v3 : Option Nat) (b : Nat) (k23 : Int32 → RS → Mem → Prop) (v4 : Int32)  (ρ : RS) (μ : Mem) : Prop := LB_1268 xs L v1 v3 b k23 v4 (ρ) μ
set_option maxHeartbeats 8000000 in
set_option maxRecDepth 100000 in
theorem lw_1265 {X : CX} (E : EV X code 7 "PlaceFinderLaw" ret) {sb : Nat} {xs : Nat → Int32} {L : Nat} {v1 v3 : Option Nat} {b : Nat} (hS : SX X sb L xs) (hR : xR X = room_1) (hLR : LR X) (hLF : LF (xl X)) (kc ks : Nat) (hkc : kc ≤ 601024) (hks : ks ≤ 7293034) (k23 : Int32 → RS → Mem → Prop) (hk : ∀ (v4 : Int32) (ρ : RS) (μ : Mem), k23 v4 ρ μ → WM X 7 23 [(0, vR (some sb)), (1, vR v1), (2, vR (some b)), (3, vR v3), (4, vI v4)] [] kc ks (ov b ρ μ)) (v4 : Int32)  (ρ : RS) (μ : Mem) (h : LB_1265 xs L v1 v3 b k23 v4 ρ μ) : WM X 7 1265 [(0, vR (some sb)), (1, vR v1), (2, vR (some b)), (3, vR v3), (4, vI v4)] [] kc ks (ov b ρ μ) := by
  have h : LB_1268 xs L v1 v3 b k23 v4 (ρ) μ := h
  refine wm_goto (tgt := 1268) E dL_law_1265 (by decide) ?_
  refine wm_pick (lv' := [(0, vR (some sb)), (1, vR v1), (2, vR (some b)), (3, vR v3), (4, vI v4)]) [0, 1, 2, 3, 4] rfl ?_
  exact lw_1268 E hS hR hLR hLF kc ks hkc hks k23 hk v4 (ρ) μ h
def LB_1223 (xs : Nat → Int32) (L : Nat) (v1 v3 : Option Nat) (b : Nat) (k23 : Int32 → RS → Mem → Prop) (v4 : Int32) (s0 : Int32) (ρ : RS) (μ : Mem) : Prop := (¬ ((v4 + 1 : Int32) < 0 ∨ L ≤ ((v4 + 1 : Int32)).toNatClampNeg)) ∧ (∃ x1232 ρ1232, R_M_told (xs ((v4 + 1 : Int32)).toNatClampNeg) ρ = some (x1232, ρ1232) ∧ mW μ ≤ b ∧ (∃ x1238, R_M_thrown  ρ1232 = some x1238 ∧ (((x1238 = s0) → (((s0 = 0) → (∃ x1255, aL (ov b ρ1232 μ) v3 1 0 = some x1255 ∧ ((((lg_cmp x1255 ((x1232 : Int32).toInt64)) = 0) → (LB_1265 xs L v1 v3 b k23 v4 (ρ1232) μ)) ∧ (¬ ((lg_cmp x1255 ((x1232 : Int32).toInt64)) = 0) → ((0 : Int32) = 1))))) ∧ (¬ (s0 = 0) → (LB_1265 xs L v1 v3 b k23 v4 (ρ1232) μ)))) ∧ (¬ (x1238 = s0) → ((0 : Int32) = 1)))))
set_option maxHeartbeats 8000000 in
set_option maxRecDepth 100000 in
theorem lw_1223 {X : CX} (E : EV X code 7 "PlaceFinderLaw" ret) {sb : Nat} {xs : Nat → Int32} {L : Nat} {v1 v3 : Option Nat} {b : Nat} (hS : SX X sb L xs) (hR : xR X = room_1) (hLR : LR X) (hLF : LF (xl X)) (kc ks : Nat) (hkc : kc ≤ 601024) (hks : ks ≤ 7293034) (k23 : Int32 → RS → Mem → Prop) (hk : ∀ (v4 : Int32) (ρ : RS) (μ : Mem), k23 v4 ρ μ → WM X 7 23 [(0, vR (some sb)), (1, vR v1), (2, vR (some b)), (3, vR v3), (4, vI v4)] [] kc ks (ov b ρ μ)) (v4 : Int32) (s0 : Int32) (ρ : RS) (μ : Mem) (h : LB_1223 xs L v1 v3 b k23 v4 s0 ρ μ) : WM X 7 1223 [(0, vR (some sb)), (1, vR v1), (2, vR (some b)), (3, vR v3), (4, vI v4)] [vI s0] kc ks (ov b ρ μ) := by
  have h : (¬ ((v4 + 1 : Int32) < 0 ∨ L ≤ ((v4 + 1 : Int32)).toNatClampNeg)) ∧ (∃ x1232 ρ1232, R_M_told (xs ((v4 + 1 : Int32)).toNatClampNeg) ρ = some (x1232, ρ1232) ∧ mW μ ≤ b ∧ (∃ x1238, R_M_thrown  ρ1232 = some x1238 ∧ (((x1238 = s0) → (((s0 = 0) → (∃ x1255, aL (ov b ρ1232 μ) v3 1 0 = some x1255 ∧ ((((lg_cmp x1255 ((x1232 : Int32).toInt64)) = 0) → (LB_1265 xs L v1 v3 b k23 v4 (ρ1232) μ)) ∧ (¬ ((lg_cmp x1255 ((x1232 : Int32).toInt64)) = 0) → ((0 : Int32) = 1))))) ∧ (¬ (s0 = 0) → (LB_1265 xs L v1 v3 b k23 v4 (ρ1232) μ)))) ∧ (¬ (x1238 = s0) → ((0 : Int32) = 1))))) := h
  refine wm_istore (lv' := [(5, vI s0), (0, vR (some sb)), (1, vR v1), (2, vR (some b)), (3, vR v3), (4, vI v4)]) E dL_law_1223 (by decide) rfl ?_
  refine wm_aload_n E dL_law_1225 rfl (j := 3) rfl ?_
  refine wm_aload_n E dL_law_1226 rfl (j := 1) rfl ?_
  refine wm_iload E dL_law_1227 (j := 5) rfl ?_
  refine wm_iconst (x := 1) E dL_law_1229 (by decide) ?_
  refine wm_iadd E dL_law_1230 ?_
  obtain ⟨hi1231, h⟩ := h
  refine wm_sld E hS hi1231 dL_law_1231 ?_
  obtain ⟨x1232, ρ1232, hc1232, hW1232, h⟩ := h
  refine wm_cV (ci := 12) (As := [vI (xs ((v4 + 1 : Int32)).toNatClampNeg)]) (st := []) E lk_L_157 rfl im_M_told sl_M_told (ov_rc _ _ _) (RC_M_told (xl X) X.1 b ρ μ hW1232 (xs ((v4 + 1 : Int32)).toNatClampNeg) _ _ hc1232) rfl rfl (by rw [hR]; decide) (by rw [hR]; exact ⟨show kc + 0 ≤ 601024 by omega, show ks + 0 ≤ 7293034 by omega⟩) (Nat.le_of_ble_eq_true rfl) dL_law_1232 ?_
  refine wm_istore (lv' := [(6, vI x1232), (5, vI s0), (0, vR (some sb)), (1, vR v1), (2, vR (some b)), (3, vR v3), (4, vI v4)]) E dL_law_1235 (by decide) rfl ?_
  refine wm_aload_n E dL_law_1237 rfl (j := 4) rfl ?_
  obtain ⟨x1238, hc1238, h⟩ := h
  refine wm_cV (ci := 12) (As := []) (st := []) E lk_L_85 rfl im_M_thrown sl_M_thrown (ov_rc _ _ _) (RC_M_thrown (xl X) X.1 b ρ1232 μ  _ hc1238) rfl rfl (by rw [hR]; decide) (by rw [hR]; exact ⟨show kc + 0 ≤ 601024 by omega, show ks + 0 ≤ 7293034 by omega⟩) (Nat.le_of_ble_eq_true rfl) dL_law_1238 ?_
  refine wm_iload E dL_law_1241 (j := 1) rfl ?_
  refine wm_icmp_eq (tgt := 1248) E dL_law_1243 (by decide) (fun c1243 => ?_) (fun c1243 => ?_)
  · have h := h.1 c1243
    refine wm_iload E dL_law_1248 (j := 1) rfl ?_
    refine wm_if_ne (tgt := 1265) E dL_law_1250 (by decide) (fun c1250 => ?_) (fun c1250 => ?_)
    · have h := h.2 c1250
      refine wm_pick (lv' := [(0, vR (some sb)), (1, vR v1), (2, vR (some b)), (3, vR v3), (4, vI v4)]) [2, 3, 4, 5, 6] rfl ?_
      exact lw_1265 E hS hR hLR hLF kc ks hkc hks k23 hk v4 (ρ1232) μ h
    · have h := h.1 c1250
      refine wm_aload_n E dL_law_1253 rfl (j := 5) rfl ?_
      refine wm_iconst (x := 0) E dL_law_1254 (by decide) ?_
      obtain ⟨x1255, hl1255, h⟩ := h
      refine wm_lald (t := 1) (β := Int64) (res := x1255) (F := some) E rfl (by rw [hl1255]; rfl) dL_law_1255 (fun y1255 hy1255 => ?_)
      cases hy1255
      refine wm_iload E dL_law_1256 (j := 0) rfl ?_
      refine wm_i2l E dL_law_1258 ?_
      refine wm_lcmp E dL_law_1259 ?_
      refine wm_if_eq (tgt := 1265) E dL_law_1260 (by decide) (fun c1260 => ?_) (fun c1260 => ?_)
      · have h := h.1 c1260
        refine wm_pick (lv' := [(0, vR (some sb)), (1, vR v1), (2, vR (some b)), (3, vR v3), (4, vI v4)]) [2, 3, 4, 5, 6] rfl ?_
        exact lw_1265 E hS hR hLR hLF kc ks hkc hks k23 hk v4 (ρ1232) μ h
      · have h := h.2 c1260
        refine wm_iconst (x := 0) E dL_law_1263 (by decide) ?_
        exact wm_lawret hLR h (by omega) (by omega) dL_law_1264
  · have h := h.2 c1243
    refine wm_iconst (x := 0) E dL_law_1246 (by decide) ?_
    exact wm_lawret hLR h (by omega) (by omega) dL_law_1247
def LB_23 (xs : Nat → Int32) (L : Nat) (v1 v3 : Option Nat) (b : Nat) : Nat → Int32 → RS → Mem → Prop
  | 0, _, _, _ => False
  | n + 1, v4, ρ, μ => ((((Int32.ofNat L) - 6) < v4) → ((1 : Int32) = 1)) ∧ (¬ (((Int32.ofNat L) - 6) < v4) → ((¬ ((v4 : Int32) < 0 ∨ L ≤ ((v4 : Int32)).toNatClampNeg)) ∧ ((((xs ((v4 : Int32)).toNatClampNeg) &&& 31) = 0 → ((¬ ((v4 + 1 : Int32) < 0 ∨ L ≤ ((v4 + 1 : Int32)).toNatClampNeg)) ∧ (WC (fun m => S_L_place v1 (xs ((v4 + 1 : Int32)).toNatClampNeg) v3 m) (fun m => S_P_place v1 (xs ((v4 + 1 : Int32)).toNatClampNeg) m) [(0, 1), (1, 2)] v1 b ρ μ (fun x144 m144 => LB_147 xs L v1 v3 b (LB_23 xs L v1 v3 b n) v4 x144 (ρ) m144)))) ∧ (¬ ((xs ((v4 : Int32)).toNatClampNeg) &&& 31) = 0 → ((((xs ((v4 : Int32)).toNatClampNeg) &&& 31) = 1 → ((¬ ((v4 + 1 : Int32) < 0 ∨ L ≤ ((v4 + 1 : Int32)).toNatClampNeg)) ∧ ((¬ ((v4 + 2 : Int32) < 0 ∨ L ≤ ((v4 + 2 : Int32)).toNatClampNeg)) ∧ (WC (fun m => S_L_corner v1 (xs ((v4 + 1 : Int32)).toNatClampNeg) (xs ((v4 + 2 : Int32)).toNatClampNeg) v3 m) (fun m => S_P_corner v1 (xs ((v4 + 1 : Int32)).toNatClampNeg) (xs ((v4 + 2 : Int32)).toNatClampNeg) m) [(0, 1), (1, 2)] v1 b ρ μ (fun x206 m206 => LB_209 xs L v1 v3 b (LB_23 xs L v1 v3 b n) v4 x206 (ρ) m206))))) ∧ (¬ ((xs ((v4 : Int32)).toNatClampNeg) &&& 31) = 1 → ((((xs ((v4 : Int32)).toNatClampNeg) &&& 31) = 2 → ((¬ ((v4 + 1 : Int32) < 0 ∨ L ≤ ((v4 + 1 : Int32)).toNatClampNeg)) ∧ ((¬ ((v4 + 2 : Int32) < 0 ∨ L ≤ ((v4 + 2 : Int32)).toNatClampNeg)) ∧ (WC (fun m => S_L_shape v1 (xs ((v4 + 1 : Int32)).toNatClampNeg) (xs ((v4 + 2 : Int32)).toNatClampNeg) m) (fun m => S_P_shape v1 (xs ((v4 + 1 : Int32)).toNatClampNeg) (xs ((v4 + 2 : Int32)).toNatClampNeg) m) [(0, 1), (1, 2)] v1 b ρ μ (fun x273 m273 => LB_276 xs L v1 v3 b (LB_23 xs L v1 v3 b n) v4 x273 (ρ) m273))))) ∧ (¬ ((xs ((v4 : Int32)).toNatClampNeg) &&& 31) = 2 → ((((xs ((v4 : Int32)).toNatClampNeg) &&& 31) = 3 → (∃ x309 m309, S_P_route v1 (ov b ρ μ) = some (x309, m309) ∧ rc (ov b ρ μ) v1 11 = some () ∧ ov b ρ m309 = m309 ∧ (∃ x313 ρ313, R_M_route ρ = some (x313, ρ313) ∧ mW m309 ≤ b ∧ (LB_1268 xs L v1 v3 b (LB_23 xs L v1 v3 b n) v4 (ρ313) m309)))) ∧ (¬ ((xs ((v4 : Int32)).toNatClampNeg) &&& 31) = 3 → ((((xs ((v4 : Int32)).toNatClampNeg) &&& 31) = 4 → ((¬ ((v4 + 1 : Int32) < 0 ∨ L ≤ ((v4 + 1 : Int32)).toNatClampNeg)) ∧ (∃ x326 m326, S_P_letter v1 (xs ((v4 + 1 : Int32)).toNatClampNeg) (ov b ρ μ) = some (x326, m326) ∧ rc (ov b ρ μ) v1 11 = some () ∧ ov b ρ m326 = m326 ∧ ((¬ ((v4 + 1 : Int32) < 0 ∨ L ≤ ((v4 + 1 : Int32)).toNatClampNeg)) ∧ (∃ x336 ρ336, R_M_letter (xs ((v4 + 1 : Int32)).toNatClampNeg) ρ = some (x336, ρ336) ∧ mW m326 ≤ b ∧ (((x326 = x336) → (LB_1268 xs L v1 v3 b (LB_23 xs L v1 v3 b n) v4 (ρ336) m326)) ∧ (¬ (x326 = x336) → ((0 : Int32) = 1)))))))) ∧ (¬ ((xs ((v4 : Int32)).toNatClampNeg) &&& 31) = 4 → ((((xs ((v4 : Int32)).toNatClampNeg) &&& 31) = 5 → ((¬ ((v4 + 1 : Int32) < 0 ∨ L ≤ ((v4 + 1 : Int32)).toNatClampNeg)) ∧ ((¬ ((v4 + 2 : Int32) < 0 ∨ L ≤ ((v4 + 2 : Int32)).toNatClampNeg)) ∧ ((¬ ((v4 + 3 : Int32) < 0 ∨ L ≤ ((v4 + 3 : Int32)).toNatClampNeg)) ∧ (WC (fun m => S_L_name v1 (xs ((v4 + 1 : Int32)).toNatClampNeg) (xs ((v4 + 2 : Int32)).toNatClampNeg) (xs ((v4 + 3 : Int32)).toNatClampNeg) m) (fun m => S_P_name v1 (xs ((v4 + 1 : Int32)).toNatClampNeg) (xs ((v4 + 2 : Int32)).toNatClampNeg) (xs ((v4 + 3 : Int32)).toNatClampNeg) m) [(0, 1), (1, 2)] v1 b ρ μ (fun x363 m363 => LB_366 xs L v1 v3 b (LB_23 xs L v1 v3 b n) v4 x363 (ρ) m363)))))) ∧ (¬ ((xs ((v4 : Int32)).toNatClampNeg) &&& 31) = 5 → ((((xs ((v4 : Int32)).toNatClampNeg) &&& 31) = 6 → ((¬ ((v4 + 1 : Int32) < 0 ∨ L ≤ ((v4 + 1 : Int32)).toNatClampNeg)) ∧ ((¬ ((v4 + 2 : Int32) < 0 ∨ L ≤ ((v4 + 2 : Int32)).toNatClampNeg)) ∧ ((¬ ((v4 + 3 : Int32) < 0 ∨ L ≤ ((v4 + 3 : Int32)).toNatClampNeg)) ∧ ((¬ ((v4 + 4 : Int32) < 0 ∨ L ≤ ((v4 + 4 : Int32)).toNatClampNeg)) ∧ (WC (fun m => S_L_parent v1 (xs ((v4 + 1 : Int32)).toNatClampNeg) (xs ((v4 + 2 : Int32)).toNatClampNeg) (xs ((v4 + 3 : Int32)).toNatClampNeg) (xs ((v4 + 4 : Int32)).toNatClampNeg) m) (fun m => S_P_parent v1 (xs ((v4 + 1 : Int32)).toNatClampNeg) (xs ((v4 + 2 : Int32)).toNatClampNeg) (xs ((v4 + 3 : Int32)).toNatClampNeg) (xs ((v4 + 4 : Int32)).toNatClampNeg) m) [(0, 1), (2, 2), (1, 3)] v1 b ρ μ (fun x429 m429 => LB_432 xs L v1 v3 b (LB_23 xs L v1 v3 b n) v4 x429 (ρ) m429))))))) ∧ (¬ ((xs ((v4 : Int32)).toNatClampNeg) &&& 31) = 6 → ((((xs ((v4 : Int32)).toNatClampNeg) &&& 31) = 7 → ((¬ ((v4 + 1 : Int32) < 0 ∨ L ≤ ((v4 + 1 : Int32)).toNatClampNeg)) ∧ ((¬ ((v4 + 2 : Int32) < 0 ∨ L ≤ ((v4 + 2 : Int32)).toNatClampNeg)) ∧ (WC (fun m => S_L_remove v1 (xs ((v4 + 1 : Int32)).toNatClampNeg) (xs ((v4 + 2 : Int32)).toNatClampNeg) m) (fun m => S_P_remove v1 (xs ((v4 + 1 : Int32)).toNatClampNeg) (xs ((v4 + 2 : Int32)).toNatClampNeg) m) [(0, 1), (1, 2)] v1 b ρ μ (fun x489 m489 => LB_492 xs L v1 v3 b (LB_23 xs L v1 v3 b n) v4 x489 (ρ) m489))))) ∧ (¬ ((xs ((v4 : Int32)).toNatClampNeg) &&& 31) = 7 → ((((xs ((v4 : Int32)).toNatClampNeg) &&& 31) = 8 → ((¬ ((v4 + 1 : Int32) < 0 ∨ L ≤ ((v4 + 1 : Int32)).toNatClampNeg)) ∧ ((¬ ((v4 + 2 : Int32) < 0 ∨ L ≤ ((v4 + 2 : Int32)).toNatClampNeg)) ∧ ((¬ ((v4 + 3 : Int32) < 0 ∨ L ≤ ((v4 + 3 : Int32)).toNatClampNeg)) ∧ ((¬ ((v4 + 4 : Int32) < 0 ∨ L ≤ ((v4 + 4 : Int32)).toNatClampNeg)) ∧ (WC (fun m => S_L_condition v1 (xs ((v4 + 1 : Int32)).toNatClampNeg) (xs ((v4 + 2 : Int32)).toNatClampNeg) (xs ((v4 + 3 : Int32)).toNatClampNeg) (xs ((v4 + 4 : Int32)).toNatClampNeg) v3 m) (fun m => S_P_condition v1 (xs ((v4 + 1 : Int32)).toNatClampNeg) (xs ((v4 + 2 : Int32)).toNatClampNeg) (xs ((v4 + 3 : Int32)).toNatClampNeg) (xs ((v4 + 4 : Int32)).toNatClampNeg) m) [(0, 1), (1, 2)] v1 b ρ μ (fun x550 m550 => LB_553 xs L v1 v3 b (LB_23 xs L v1 v3 b n) v4 x550 (ρ) m550))))))) ∧ (¬ ((xs ((v4 : Int32)).toNatClampNeg) &&& 31) = 8 → ((((xs ((v4 : Int32)).toNatClampNeg) &&& 31) = 9 → (∃ x617 m617, S_P_clear v1 (ov b ρ μ) = some (x617, m617) ∧ rc (ov b ρ μ) v1 11 = some () ∧ ov b ρ m617 = m617 ∧ (∃ x621 ρ621, R_M_clear ρ = some (x621, ρ621) ∧ mW m617 ≤ b ∧ (LB_1268 xs L v1 v3 b (LB_23 xs L v1 v3 b n) v4 (ρ621) m617)))) ∧ (¬ ((xs ((v4 : Int32)).toNatClampNeg) &&& 31) = 9 → ((((xs ((v4 : Int32)).toNatClampNeg) &&& 31) = 10 → ((¬ ((v4 + 1 : Int32) < 0 ∨ L ≤ ((v4 + 1 : Int32)).toNatClampNeg)) ∧ ((¬ ((v4 + 2 : Int32) < 0 ∨ L ≤ ((v4 + 2 : Int32)).toNatClampNeg)) ∧ (WC (fun m => S_L_find v1 (xs ((v4 + 1 : Int32)).toNatClampNeg) (xs ((v4 + 2 : Int32)).toNatClampNeg) v3 m) (fun m => S_P_find v1 (xs ((v4 + 1 : Int32)).toNatClampNeg) (xs ((v4 + 2 : Int32)).toNatClampNeg) m) [(0, 1)] v1 b ρ μ (fun x641 m641 => LB_644 xs L v1 v3 b (LB_23 xs L v1 v3 b n) v4 x641 (ρ) m641))))) ∧ (¬ ((xs ((v4 : Int32)).toNatClampNeg) &&& 31) = 10 → ((((xs ((v4 : Int32)).toNatClampNeg) &&& 31) = 11 → ((¬ ((v4 + 1 : Int32) < 0 ∨ L ≤ ((v4 + 1 : Int32)).toNatClampNeg)) ∧ ((¬ ((v4 + 2 : Int32) < 0 ∨ L ≤ ((v4 + 2 : Int32)).toNatClampNeg)) ∧ ((¬ ((v4 + 3 : Int32) < 0 ∨ L ≤ ((v4 + 3 : Int32)).toNatClampNeg)) ∧ ((¬ ((v4 + 4 : Int32) < 0 ∨ L ≤ ((v4 + 4 : Int32)).toNatClampNeg)) ∧ ((¬ ((v4 + 5 : Int32) < 0 ∨ L ≤ ((v4 + 5 : Int32)).toNatClampNeg)) ∧ (WC (fun m => S_L_near v1 (xs ((v4 + 1 : Int32)).toNatClampNeg) (xs ((v4 + 2 : Int32)).toNatClampNeg) (xs ((v4 + 3 : Int32)).toNatClampNeg) (xs ((v4 + 4 : Int32)).toNatClampNeg) (xs ((v4 + 5 : Int32)).toNatClampNeg) v3 m) (fun m => S_P_near v1 (xs ((v4 + 1 : Int32)).toNatClampNeg) (xs ((v4 + 2 : Int32)).toNatClampNeg) (xs ((v4 + 3 : Int32)).toNatClampNeg) (xs ((v4 + 4 : Int32)).toNatClampNeg) (xs ((v4 + 5 : Int32)).toNatClampNeg) m) [(0, 1)] v1 b ρ μ (fun x727 m727 => LB_730 xs L v1 v3 b (LB_23 xs L v1 v3 b n) v4 x727 (ρ) m727)))))))) ∧ (¬ ((xs ((v4 : Int32)).toNatClampNeg) &&& 31) = 11 → ((((xs ((v4 : Int32)).toNatClampNeg) &&& 31) = 12 → ((¬ ((v4 + 1 : Int32) < 0 ∨ L ≤ ((v4 + 1 : Int32)).toNatClampNeg)) ∧ (WC (fun m => S_L_hit v1 (xs ((v4 + 1 : Int32)).toNatClampNeg) v3 m) (fun m => S_P_hit v1 (xs ((v4 + 1 : Int32)).toNatClampNeg) m) [(3, 1)] v1 b ρ μ (fun x807 m807 => LB_810 xs L v1 v3 b (LB_23 xs L v1 v3 b n) v4 x807 (ρ) m807)))) ∧ (¬ ((xs ((v4 : Int32)).toNatClampNeg) &&& 31) = 12 → ((((xs ((v4 : Int32)).toNatClampNeg) &&& 31) = 13 → ((¬ ((v4 + 1 : Int32) < 0 ∨ L ≤ ((v4 + 1 : Int32)).toNatClampNeg)) ∧ ((¬ ((v4 + 2 : Int32) < 0 ∨ L ≤ ((v4 + 2 : Int32)).toNatClampNeg)) ∧ ((¬ ((v4 + 3 : Int32) < 0 ∨ L ≤ ((v4 + 3 : Int32)).toNatClampNeg)) ∧ (WC (fun m => S_L_chain v1 (xs ((v4 + 1 : Int32)).toNatClampNeg) (xs ((v4 + 2 : Int32)).toNatClampNeg) (xs ((v4 + 3 : Int32)).toNatClampNeg) v3 m) (fun m => S_P_chain v1 (xs ((v4 + 1 : Int32)).toNatClampNeg) (xs ((v4 + 2 : Int32)).toNatClampNeg) (xs ((v4 + 3 : Int32)).toNatClampNeg) m) [(0, 1)] v1 b ρ μ (fun x875 m875 => LB_878 xs L v1 v3 b (LB_23 xs L v1 v3 b n) v4 x875 (ρ) m875)))))) ∧ (¬ ((xs ((v4 : Int32)).toNatClampNeg) &&& 31) = 13 → ((((xs ((v4 : Int32)).toNatClampNeg) &&& 31) = 14 → ((¬ ((v4 + 1 : Int32) < 0 ∨ L ≤ ((v4 + 1 : Int32)).toNatClampNeg)) ∧ ((¬ ((v4 + 2 : Int32) < 0 ∨ L ≤ ((v4 + 2 : Int32)).toNatClampNeg)) ∧ ((¬ ((v4 + 3 : Int32) < 0 ∨ L ≤ ((v4 + 3 : Int32)).toNatClampNeg)) ∧ ((¬ ((v4 + 4 : Int32) < 0 ∨ L ≤ ((v4 + 4 : Int32)).toNatClampNeg)) ∧ (WC (fun m => S_L_holds v1 (xs ((v4 + 1 : Int32)).toNatClampNeg) (xs ((v4 + 2 : Int32)).toNatClampNeg) (xs ((v4 + 3 : Int32)).toNatClampNeg) (xs ((v4 + 4 : Int32)).toNatClampNeg) v3 m) (fun m => S_P_holds v1 (xs ((v4 + 1 : Int32)).toNatClampNeg) (xs ((v4 + 2 : Int32)).toNatClampNeg) (xs ((v4 + 3 : Int32)).toNatClampNeg) (xs ((v4 + 4 : Int32)).toNatClampNeg) m) [(0, 1)] v1 b ρ μ (fun x961 m961 => LB_964 xs L v1 v3 b (LB_23 xs L v1 v3 b n) v4 x961 (ρ) m961))))))) ∧ (¬ ((xs ((v4 : Int32)).toNatClampNeg) &&& 31) = 14 → ((((xs ((v4 : Int32)).toNatClampNeg) &&& 31) = 15 → (∃ x1028 m1028, S_P_sound v1 (ov b ρ μ) = some (x1028, m1028) ∧ rc (ov b ρ μ) v1 11 = some () ∧ ov b ρ m1028 = m1028 ∧ (∃ x1032 ρ1032, R_M_sound ρ = some (x1032, ρ1032) ∧ mW m1028 ≤ b ∧ (((x1028 = x1032) → (LB_1268 xs L v1 v3 b (LB_23 xs L v1 v3 b n) v4 (ρ1032) m1028)) ∧ (¬ (x1028 = x1032) → ((0 : Int32) = 1)))))) ∧ (¬ ((xs ((v4 : Int32)).toNatClampNeg) &&& 31) = 15 → ((((xs ((v4 : Int32)).toNatClampNeg) &&& 31) = 16 → ((¬ ((v4 + 1 : Int32) < 0 ∨ L ≤ ((v4 + 1 : Int32)).toNatClampNeg)) ∧ ((¬ ((v4 + 2 : Int32) < 0 ∨ L ≤ ((v4 + 2 : Int32)).toNatClampNeg)) ∧ (WC (fun m => S_L_errors v1 (xs ((v4 + 1 : Int32)).toNatClampNeg) (xs ((v4 + 2 : Int32)).toNatClampNeg) v3 m) (fun m => S_P_errors v1 (xs ((v4 + 1 : Int32)).toNatClampNeg) (xs ((v4 + 2 : Int32)).toNatClampNeg) m) [(4, 1)] v1 b ρ μ (fun x1054 m1054 => LB_1057 xs L v1 v3 b (LB_23 xs L v1 v3 b n) v4 x1054 (ρ) m1054))))) ∧ (¬ ((xs ((v4 : Int32)).toNatClampNeg) &&& 31) = 16 → ((((xs ((v4 : Int32)).toNatClampNeg) &&& 31) = 17 → ((¬ ((v4 + 1 : Int32) < 0 ∨ L ≤ ((v4 + 1 : Int32)).toNatClampNeg)) ∧ ((¬ ((v4 + 2 : Int32) < 0 ∨ L ≤ ((v4 + 2 : Int32)).toNatClampNeg)) ∧ (WC (fun m => S_L_watch v1 (xs ((v4 + 1 : Int32)).toNatClampNeg) (xs ((v4 + 2 : Int32)).toNatClampNeg) m) (fun m => S_P_watch v1 (xs ((v4 + 1 : Int32)).toNatClampNeg) (xs ((v4 + 2 : Int32)).toNatClampNeg) m) [(0, 1)] v1 b ρ μ (fun x1121 m1121 => LB_1124 xs L v1 v3 b (LB_23 xs L v1 v3 b n) v4 x1121 (ρ) m1121))))) ∧ (¬ ((xs ((v4 : Int32)).toNatClampNeg) &&& 31) = 17 → ((((xs ((v4 : Int32)).toNatClampNeg) &&& 31) = 18 → ((¬ ((v4 + 1 : Int32) < 0 ∨ L ≤ ((v4 + 1 : Int32)).toNatClampNeg)) ∧ (WC (fun m => S_L_news v1 (xs ((v4 + 1 : Int32)).toNatClampNeg) v3 m) (fun m => S_P_news v1 (xs ((v4 + 1 : Int32)).toNatClampNeg) m) [(0, 1)] v1 b ρ μ (fun x1164 m1164 => LB_1167 xs L v1 v3 b (LB_23 xs L v1 v3 b n) v4 x1164 (ρ) m1164)))) ∧ (¬ ((xs ((v4 : Int32)).toNatClampNeg) &&& 31) = 18 → ((((xs ((v4 : Int32)).toNatClampNeg) &&& 31) = 19 → ((¬ ((v4 + 1 : Int32) < 0 ∨ L ≤ ((v4 + 1 : Int32)).toNatClampNeg)) ∧ (WC (fun m => S_L_told v1 (xs ((v4 + 1 : Int32)).toNatClampNeg) v3 m) (fun m => S_P_told v1 (xs ((v4 + 1 : Int32)).toNatClampNeg) m) [(0, 1)] v1 b ρ μ (fun x1220 m1220 => LB_1223 xs L v1 v3 b (LB_23 xs L v1 v3 b n) v4 x1220 (ρ) m1220)))) ∧ (¬ ((xs ((v4 : Int32)).toNatClampNeg) &&& 31) = 19 → (LB_1268 xs L v1 v3 b (LB_23 xs L v1 v3 b n) v4 (ρ) μ)))))))))))))))))))))))))))))))))))))))))))
set_option maxHeartbeats 8000000 in
set_option maxRecDepth 100000 in
theorem lw_23 {X : CX} (E : EV X code 7 "PlaceFinderLaw" ret) {sb : Nat} {xs : Nat → Int32} {L : Nat} {v1 v3 : Option Nat} {b : Nat} (hS : SX X sb L xs) (hR : xR X = room_1) (hLR : LR X) (hLF : LF (xl X)) (n : Nat) : ∀ (kc ks : Nat) (hkc : kc + n * 8 ≤ 601024) (hks : ks + n * 205 ≤ 7293034) (v4 : Int32) (ρ : RS) (μ : Mem) (h : LB_23 xs L v1 v3 b n v4 ρ μ), WM X 7 23 [(0, vR (some sb)), (1, vR v1), (2, vR (some b)), (3, vR v3), (4, vI v4)] [] kc ks (ov b ρ μ) := by
  induction n with
  | zero => intro kc ks hkc hks v4 ρ μ h; exact h.elim
  | succ n ih =>
    intro kc ks hkc hks v4 ρ μ h
    have h : ((((Int32.ofNat L) - 6) < v4) → ((1 : Int32) = 1)) ∧ (¬ (((Int32.ofNat L) - 6) < v4) → ((¬ ((v4 : Int32) < 0 ∨ L ≤ ((v4 : Int32)).toNatClampNeg)) ∧ ((((xs ((v4 : Int32)).toNatClampNeg) &&& 31) = 0 → ((¬ ((v4 + 1 : Int32) < 0 ∨ L ≤ ((v4 + 1 : Int32)).toNatClampNeg)) ∧ (WC (fun m => S_L_place v1 (xs ((v4 + 1 : Int32)).toNatClampNeg) v3 m) (fun m => S_P_place v1 (xs ((v4 + 1 : Int32)).toNatClampNeg) m) [(0, 1), (1, 2)] v1 b ρ μ (fun x144 m144 => LB_147 xs L v1 v3 b (LB_23 xs L v1 v3 b n) v4 x144 (ρ) m144)))) ∧ (¬ ((xs ((v4 : Int32)).toNatClampNeg) &&& 31) = 0 → ((((xs ((v4 : Int32)).toNatClampNeg) &&& 31) = 1 → ((¬ ((v4 + 1 : Int32) < 0 ∨ L ≤ ((v4 + 1 : Int32)).toNatClampNeg)) ∧ ((¬ ((v4 + 2 : Int32) < 0 ∨ L ≤ ((v4 + 2 : Int32)).toNatClampNeg)) ∧ (WC (fun m => S_L_corner v1 (xs ((v4 + 1 : Int32)).toNatClampNeg) (xs ((v4 + 2 : Int32)).toNatClampNeg) v3 m) (fun m => S_P_corner v1 (xs ((v4 + 1 : Int32)).toNatClampNeg) (xs ((v4 + 2 : Int32)).toNatClampNeg) m) [(0, 1), (1, 2)] v1 b ρ μ (fun x206 m206 => LB_209 xs L v1 v3 b (LB_23 xs L v1 v3 b n) v4 x206 (ρ) m206))))) ∧ (¬ ((xs ((v4 : Int32)).toNatClampNeg) &&& 31) = 1 → ((((xs ((v4 : Int32)).toNatClampNeg) &&& 31) = 2 → ((¬ ((v4 + 1 : Int32) < 0 ∨ L ≤ ((v4 + 1 : Int32)).toNatClampNeg)) ∧ ((¬ ((v4 + 2 : Int32) < 0 ∨ L ≤ ((v4 + 2 : Int32)).toNatClampNeg)) ∧ (WC (fun m => S_L_shape v1 (xs ((v4 + 1 : Int32)).toNatClampNeg) (xs ((v4 + 2 : Int32)).toNatClampNeg) m) (fun m => S_P_shape v1 (xs ((v4 + 1 : Int32)).toNatClampNeg) (xs ((v4 + 2 : Int32)).toNatClampNeg) m) [(0, 1), (1, 2)] v1 b ρ μ (fun x273 m273 => LB_276 xs L v1 v3 b (LB_23 xs L v1 v3 b n) v4 x273 (ρ) m273))))) ∧ (¬ ((xs ((v4 : Int32)).toNatClampNeg) &&& 31) = 2 → ((((xs ((v4 : Int32)).toNatClampNeg) &&& 31) = 3 → (∃ x309 m309, S_P_route v1 (ov b ρ μ) = some (x309, m309) ∧ rc (ov b ρ μ) v1 11 = some () ∧ ov b ρ m309 = m309 ∧ (∃ x313 ρ313, R_M_route ρ = some (x313, ρ313) ∧ mW m309 ≤ b ∧ (LB_1268 xs L v1 v3 b (LB_23 xs L v1 v3 b n) v4 (ρ313) m309)))) ∧ (¬ ((xs ((v4 : Int32)).toNatClampNeg) &&& 31) = 3 → ((((xs ((v4 : Int32)).toNatClampNeg) &&& 31) = 4 → ((¬ ((v4 + 1 : Int32) < 0 ∨ L ≤ ((v4 + 1 : Int32)).toNatClampNeg)) ∧ (∃ x326 m326, S_P_letter v1 (xs ((v4 + 1 : Int32)).toNatClampNeg) (ov b ρ μ) = some (x326, m326) ∧ rc (ov b ρ μ) v1 11 = some () ∧ ov b ρ m326 = m326 ∧ ((¬ ((v4 + 1 : Int32) < 0 ∨ L ≤ ((v4 + 1 : Int32)).toNatClampNeg)) ∧ (∃ x336 ρ336, R_M_letter (xs ((v4 + 1 : Int32)).toNatClampNeg) ρ = some (x336, ρ336) ∧ mW m326 ≤ b ∧ (((x326 = x336) → (LB_1268 xs L v1 v3 b (LB_23 xs L v1 v3 b n) v4 (ρ336) m326)) ∧ (¬ (x326 = x336) → ((0 : Int32) = 1)))))))) ∧ (¬ ((xs ((v4 : Int32)).toNatClampNeg) &&& 31) = 4 → ((((xs ((v4 : Int32)).toNatClampNeg) &&& 31) = 5 → ((¬ ((v4 + 1 : Int32) < 0 ∨ L ≤ ((v4 + 1 : Int32)).toNatClampNeg)) ∧ ((¬ ((v4 + 2 : Int32) < 0 ∨ L ≤ ((v4 + 2 : Int32)).toNatClampNeg)) ∧ ((¬ ((v4 + 3 : Int32) < 0 ∨ L ≤ ((v4 + 3 : Int32)).toNatClampNeg)) ∧ (WC (fun m => S_L_name v1 (xs ((v4 + 1 : Int32)).toNatClampNeg) (xs ((v4 + 2 : Int32)).toNatClampNeg) (xs ((v4 + 3 : Int32)).toNatClampNeg) m) (fun m => S_P_name v1 (xs ((v4 + 1 : Int32)).toNatClampNeg) (xs ((v4 + 2 : Int32)).toNatClampNeg) (xs ((v4 + 3 : Int32)).toNatClampNeg) m) [(0, 1), (1, 2)] v1 b ρ μ (fun x363 m363 => LB_366 xs L v1 v3 b (LB_23 xs L v1 v3 b n) v4 x363 (ρ) m363)))))) ∧ (¬ ((xs ((v4 : Int32)).toNatClampNeg) &&& 31) = 5 → ((((xs ((v4 : Int32)).toNatClampNeg) &&& 31) = 6 → ((¬ ((v4 + 1 : Int32) < 0 ∨ L ≤ ((v4 + 1 : Int32)).toNatClampNeg)) ∧ ((¬ ((v4 + 2 : Int32) < 0 ∨ L ≤ ((v4 + 2 : Int32)).toNatClampNeg)) ∧ ((¬ ((v4 + 3 : Int32) < 0 ∨ L ≤ ((v4 + 3 : Int32)).toNatClampNeg)) ∧ ((¬ ((v4 + 4 : Int32) < 0 ∨ L ≤ ((v4 + 4 : Int32)).toNatClampNeg)) ∧ (WC (fun m => S_L_parent v1 (xs ((v4 + 1 : Int32)).toNatClampNeg) (xs ((v4 + 2 : Int32)).toNatClampNeg) (xs ((v4 + 3 : Int32)).toNatClampNeg) (xs ((v4 + 4 : Int32)).toNatClampNeg) m) (fun m => S_P_parent v1 (xs ((v4 + 1 : Int32)).toNatClampNeg) (xs ((v4 + 2 : Int32)).toNatClampNeg) (xs ((v4 + 3 : Int32)).toNatClampNeg) (xs ((v4 + 4 : Int32)).toNatClampNeg) m) [(0, 1), (2, 2), (1, 3)] v1 b ρ μ (fun x429 m429 => LB_432 xs L v1 v3 b (LB_23 xs L v1 v3 b n) v4 x429 (ρ) m429))))))) ∧ (¬ ((xs ((v4 : Int32)).toNatClampNeg) &&& 31) = 6 → ((((xs ((v4 : Int32)).toNatClampNeg) &&& 31) = 7 → ((¬ ((v4 + 1 : Int32) < 0 ∨ L ≤ ((v4 + 1 : Int32)).toNatClampNeg)) ∧ ((¬ ((v4 + 2 : Int32) < 0 ∨ L ≤ ((v4 + 2 : Int32)).toNatClampNeg)) ∧ (WC (fun m => S_L_remove v1 (xs ((v4 + 1 : Int32)).toNatClampNeg) (xs ((v4 + 2 : Int32)).toNatClampNeg) m) (fun m => S_P_remove v1 (xs ((v4 + 1 : Int32)).toNatClampNeg) (xs ((v4 + 2 : Int32)).toNatClampNeg) m) [(0, 1), (1, 2)] v1 b ρ μ (fun x489 m489 => LB_492 xs L v1 v3 b (LB_23 xs L v1 v3 b n) v4 x489 (ρ) m489))))) ∧ (¬ ((xs ((v4 : Int32)).toNatClampNeg) &&& 31) = 7 → ((((xs ((v4 : Int32)).toNatClampNeg) &&& 31) = 8 → ((¬ ((v4 + 1 : Int32) < 0 ∨ L ≤ ((v4 + 1 : Int32)).toNatClampNeg)) ∧ ((¬ ((v4 + 2 : Int32) < 0 ∨ L ≤ ((v4 + 2 : Int32)).toNatClampNeg)) ∧ ((¬ ((v4 + 3 : Int32) < 0 ∨ L ≤ ((v4 + 3 : Int32)).toNatClampNeg)) ∧ ((¬ ((v4 + 4 : Int32) < 0 ∨ L ≤ ((v4 + 4 : Int32)).toNatClampNeg)) ∧ (WC (fun m => S_L_condition v1 (xs ((v4 + 1 : Int32)).toNatClampNeg) (xs ((v4 + 2 : Int32)).toNatClampNeg) (xs ((v4 + 3 : Int32)).toNatClampNeg) (xs ((v4 + 4 : Int32)).toNatClampNeg) v3 m) (fun m => S_P_condition v1 (xs ((v4 + 1 : Int32)).toNatClampNeg) (xs ((v4 + 2 : Int32)).toNatClampNeg) (xs ((v4 + 3 : Int32)).toNatClampNeg) (xs ((v4 + 4 : Int32)).toNatClampNeg) m) [(0, 1), (1, 2)] v1 b ρ μ (fun x550 m550 => LB_553 xs L v1 v3 b (LB_23 xs L v1 v3 b n) v4 x550 (ρ) m550))))))) ∧ (¬ ((xs ((v4 : Int32)).toNatClampNeg) &&& 31) = 8 → ((((xs ((v4 : Int32)).toNatClampNeg) &&& 31) = 9 → (∃ x617 m617, S_P_clear v1 (ov b ρ μ) = some (x617, m617) ∧ rc (ov b ρ μ) v1 11 = some () ∧ ov b ρ m617 = m617 ∧ (∃ x621 ρ621, R_M_clear ρ = some (x621, ρ621) ∧ mW m617 ≤ b ∧ (LB_1268 xs L v1 v3 b (LB_23 xs L v1 v3 b n) v4 (ρ621) m617)))) ∧ (¬ ((xs ((v4 : Int32)).toNatClampNeg) &&& 31) = 9 → ((((xs ((v4 : Int32)).toNatClampNeg) &&& 31) = 10 → ((¬ ((v4 + 1 : Int32) < 0 ∨ L ≤ ((v4 + 1 : Int32)).toNatClampNeg)) ∧ ((¬ ((v4 + 2 : Int32) < 0 ∨ L ≤ ((v4 + 2 : Int32)).toNatClampNeg)) ∧ (WC (fun m => S_L_find v1 (xs ((v4 + 1 : Int32)).toNatClampNeg) (xs ((v4 + 2 : Int32)).toNatClampNeg) v3 m) (fun m => S_P_find v1 (xs ((v4 + 1 : Int32)).toNatClampNeg) (xs ((v4 + 2 : Int32)).toNatClampNeg) m) [(0, 1)] v1 b ρ μ (fun x641 m641 => LB_644 xs L v1 v3 b (LB_23 xs L v1 v3 b n) v4 x641 (ρ) m641))))) ∧ (¬ ((xs ((v4 : Int32)).toNatClampNeg) &&& 31) = 10 → ((((xs ((v4 : Int32)).toNatClampNeg) &&& 31) = 11 → ((¬ ((v4 + 1 : Int32) < 0 ∨ L ≤ ((v4 + 1 : Int32)).toNatClampNeg)) ∧ ((¬ ((v4 + 2 : Int32) < 0 ∨ L ≤ ((v4 + 2 : Int32)).toNatClampNeg)) ∧ ((¬ ((v4 + 3 : Int32) < 0 ∨ L ≤ ((v4 + 3 : Int32)).toNatClampNeg)) ∧ ((¬ ((v4 + 4 : Int32) < 0 ∨ L ≤ ((v4 + 4 : Int32)).toNatClampNeg)) ∧ ((¬ ((v4 + 5 : Int32) < 0 ∨ L ≤ ((v4 + 5 : Int32)).toNatClampNeg)) ∧ (WC (fun m => S_L_near v1 (xs ((v4 + 1 : Int32)).toNatClampNeg) (xs ((v4 + 2 : Int32)).toNatClampNeg) (xs ((v4 + 3 : Int32)).toNatClampNeg) (xs ((v4 + 4 : Int32)).toNatClampNeg) (xs ((v4 + 5 : Int32)).toNatClampNeg) v3 m) (fun m => S_P_near v1 (xs ((v4 + 1 : Int32)).toNatClampNeg) (xs ((v4 + 2 : Int32)).toNatClampNeg) (xs ((v4 + 3 : Int32)).toNatClampNeg) (xs ((v4 + 4 : Int32)).toNatClampNeg) (xs ((v4 + 5 : Int32)).toNatClampNeg) m) [(0, 1)] v1 b ρ μ (fun x727 m727 => LB_730 xs L v1 v3 b (LB_23 xs L v1 v3 b n) v4 x727 (ρ) m727)))))))) ∧ (¬ ((xs ((v4 : Int32)).toNatClampNeg) &&& 31) = 11 → ((((xs ((v4 : Int32)).toNatClampNeg) &&& 31) = 12 → ((¬ ((v4 + 1 : Int32) < 0 ∨ L ≤ ((v4 + 1 : Int32)).toNatClampNeg)) ∧ (WC (fun m => S_L_hit v1 (xs ((v4 + 1 : Int32)).toNatClampNeg) v3 m) (fun m => S_P_hit v1 (xs ((v4 + 1 : Int32)).toNatClampNeg) m) [(3, 1)] v1 b ρ μ (fun x807 m807 => LB_810 xs L v1 v3 b (LB_23 xs L v1 v3 b n) v4 x807 (ρ) m807)))) ∧ (¬ ((xs ((v4 : Int32)).toNatClampNeg) &&& 31) = 12 → ((((xs ((v4 : Int32)).toNatClampNeg) &&& 31) = 13 → ((¬ ((v4 + 1 : Int32) < 0 ∨ L ≤ ((v4 + 1 : Int32)).toNatClampNeg)) ∧ ((¬ ((v4 + 2 : Int32) < 0 ∨ L ≤ ((v4 + 2 : Int32)).toNatClampNeg)) ∧ ((¬ ((v4 + 3 : Int32) < 0 ∨ L ≤ ((v4 + 3 : Int32)).toNatClampNeg)) ∧ (WC (fun m => S_L_chain v1 (xs ((v4 + 1 : Int32)).toNatClampNeg) (xs ((v4 + 2 : Int32)).toNatClampNeg) (xs ((v4 + 3 : Int32)).toNatClampNeg) v3 m) (fun m => S_P_chain v1 (xs ((v4 + 1 : Int32)).toNatClampNeg) (xs ((v4 + 2 : Int32)).toNatClampNeg) (xs ((v4 + 3 : Int32)).toNatClampNeg) m) [(0, 1)] v1 b ρ μ (fun x875 m875 => LB_878 xs L v1 v3 b (LB_23 xs L v1 v3 b n) v4 x875 (ρ) m875)))))) ∧ (¬ ((xs ((v4 : Int32)).toNatClampNeg) &&& 31) = 13 → ((((xs ((v4 : Int32)).toNatClampNeg) &&& 31) = 14 → ((¬ ((v4 + 1 : Int32) < 0 ∨ L ≤ ((v4 + 1 : Int32)).toNatClampNeg)) ∧ ((¬ ((v4 + 2 : Int32) < 0 ∨ L ≤ ((v4 + 2 : Int32)).toNatClampNeg)) ∧ ((¬ ((v4 + 3 : Int32) < 0 ∨ L ≤ ((v4 + 3 : Int32)).toNatClampNeg)) ∧ ((¬ ((v4 + 4 : Int32) < 0 ∨ L ≤ ((v4 + 4 : Int32)).toNatClampNeg)) ∧ (WC (fun m => S_L_holds v1 (xs ((v4 + 1 : Int32)).toNatClampNeg) (xs ((v4 + 2 : Int32)).toNatClampNeg) (xs ((v4 + 3 : Int32)).toNatClampNeg) (xs ((v4 + 4 : Int32)).toNatClampNeg) v3 m) (fun m => S_P_holds v1 (xs ((v4 + 1 : Int32)).toNatClampNeg) (xs ((v4 + 2 : Int32)).toNatClampNeg) (xs ((v4 + 3 : Int32)).toNatClampNeg) (xs ((v4 + 4 : Int32)).toNatClampNeg) m) [(0, 1)] v1 b ρ μ (fun x961 m961 => LB_964 xs L v1 v3 b (LB_23 xs L v1 v3 b n) v4 x961 (ρ) m961))))))) ∧ (¬ ((xs ((v4 : Int32)).toNatClampNeg) &&& 31) = 14 → ((((xs ((v4 : Int32)).toNatClampNeg) &&& 31) = 15 → (∃ x1028 m1028, S_P_sound v1 (ov b ρ μ) = some (x1028, m1028) ∧ rc (ov b ρ μ) v1 11 = some () ∧ ov b ρ m1028 = m1028 ∧ (∃ x1032 ρ1032, R_M_sound ρ = some (x1032, ρ1032) ∧ mW m1028 ≤ b ∧ (((x1028 = x1032) → (LB_1268 xs L v1 v3 b (LB_23 xs L v1 v3 b n) v4 (ρ1032) m1028)) ∧ (¬ (x1028 = x1032) → ((0 : Int32) = 1)))))) ∧ (¬ ((xs ((v4 : Int32)).toNatClampNeg) &&& 31) = 15 → ((((xs ((v4 : Int32)).toNatClampNeg) &&& 31) = 16 → ((¬ ((v4 + 1 : Int32) < 0 ∨ L ≤ ((v4 + 1 : Int32)).toNatClampNeg)) ∧ ((¬ ((v4 + 2 : Int32) < 0 ∨ L ≤ ((v4 + 2 : Int32)).toNatClampNeg)) ∧ (WC (fun m => S_L_errors v1 (xs ((v4 + 1 : Int32)).toNatClampNeg) (xs ((v4 + 2 : Int32)).toNatClampNeg) v3 m) (fun m => S_P_errors v1 (xs ((v4 + 1 : Int32)).toNatClampNeg) (xs ((v4 + 2 : Int32)).toNatClampNeg) m) [(4, 1)] v1 b ρ μ (fun x1054 m1054 => LB_1057 xs L v1 v3 b (LB_23 xs L v1 v3 b n) v4 x1054 (ρ) m1054))))) ∧ (¬ ((xs ((v4 : Int32)).toNatClampNeg) &&& 31) = 16 → ((((xs ((v4 : Int32)).toNatClampNeg) &&& 31) = 17 → ((¬ ((v4 + 1 : Int32) < 0 ∨ L ≤ ((v4 + 1 : Int32)).toNatClampNeg)) ∧ ((¬ ((v4 + 2 : Int32) < 0 ∨ L ≤ ((v4 + 2 : Int32)).toNatClampNeg)) ∧ (WC (fun m => S_L_watch v1 (xs ((v4 + 1 : Int32)).toNatClampNeg) (xs ((v4 + 2 : Int32)).toNatClampNeg) m) (fun m => S_P_watch v1 (xs ((v4 + 1 : Int32)).toNatClampNeg) (xs ((v4 + 2 : Int32)).toNatClampNeg) m) [(0, 1)] v1 b ρ μ (fun x1121 m1121 => LB_1124 xs L v1 v3 b (LB_23 xs L v1 v3 b n) v4 x1121 (ρ) m1121))))) ∧ (¬ ((xs ((v4 : Int32)).toNatClampNeg) &&& 31) = 17 → ((((xs ((v4 : Int32)).toNatClampNeg) &&& 31) = 18 → ((¬ ((v4 + 1 : Int32) < 0 ∨ L ≤ ((v4 + 1 : Int32)).toNatClampNeg)) ∧ (WC (fun m => S_L_news v1 (xs ((v4 + 1 : Int32)).toNatClampNeg) v3 m) (fun m => S_P_news v1 (xs ((v4 + 1 : Int32)).toNatClampNeg) m) [(0, 1)] v1 b ρ μ (fun x1164 m1164 => LB_1167 xs L v1 v3 b (LB_23 xs L v1 v3 b n) v4 x1164 (ρ) m1164)))) ∧ (¬ ((xs ((v4 : Int32)).toNatClampNeg) &&& 31) = 18 → ((((xs ((v4 : Int32)).toNatClampNeg) &&& 31) = 19 → ((¬ ((v4 + 1 : Int32) < 0 ∨ L ≤ ((v4 + 1 : Int32)).toNatClampNeg)) ∧ (WC (fun m => S_L_told v1 (xs ((v4 + 1 : Int32)).toNatClampNeg) v3 m) (fun m => S_P_told v1 (xs ((v4 + 1 : Int32)).toNatClampNeg) m) [(0, 1)] v1 b ρ μ (fun x1220 m1220 => LB_1223 xs L v1 v3 b (LB_23 xs L v1 v3 b n) v4 x1220 (ρ) m1220)))) ∧ (¬ ((xs ((v4 : Int32)).toNatClampNeg) &&& 31) = 19 → (LB_1268 xs L v1 v3 b (LB_23 xs L v1 v3 b n) v4 (ρ) μ))))))))))))))))))))))))))))))))))))))))))) := h
    refine wm_iload E dL_law_23 (j := 4) rfl ?_
    refine wm_aload_n E dL_law_25 rfl (j := 0) rfl ?_
    refine wm_slen E hS dL_law_26 ?_
    refine wm_bipush (x := 6) E dL_law_27 (by decide) ?_
    refine wm_isub E dL_law_29 ?_
    refine wm_icmp_gt (tgt := 1274) E dL_law_30 (by decide) (fun c30 => ?_) (fun c30 => ?_)
    · have h := h.1 c30
      refine wm_iconst (x := 1) E dL_law_1274 (by decide) ?_
      exact wm_lawret hLR h (by omega) (by omega) dL_law_1275
    · have h := h.2 c30
      refine wm_aload_n E dL_law_33 rfl (j := 0) rfl ?_
      refine wm_iload E dL_law_34 (j := 4) rfl ?_
      obtain ⟨hi36, h⟩ := h
      refine wm_sld E hS hi36 dL_law_36 ?_
      refine wm_bipush (x := 31) E dL_law_37 (by decide) ?_
      refine wm_iand E dL_law_39 ?_
      by_cases c0 : ((xs ((v4 : Int32)).toNatClampNeg) &&& 31) = 0
      · have h := h.1 c0
        refine wm_tabIn (tgt := 136) E dL_law_40 (0) ((congrArg Int32.toInt c0).trans (by decide)) (by decide) (by decide) rfl (by decide) ?_
        refine wm_aload_n E dL_law_136 rfl (j := 1) rfl ?_
        refine wm_aload_n E dL_law_137 rfl (j := 0) rfl ?_
        refine wm_iload E dL_law_138 (j := 4) rfl ?_
        refine wm_iconst (x := 1) E dL_law_140 (by decide) ?_
        refine wm_iadd E dL_law_141 ?_
        obtain ⟨hi142, h⟩ := h
        refine wm_sld E hS hi142 dL_law_142 ?_
        refine wm_aload_n E dL_law_143 rfl (j := 3) rfl ?_
        rcases h with ⟨x144, m144, hc, hov, h⟩ | ⟨ex, mx, k9, hc, hrc, hcd, h⟩
        · refine wm_cSW (As := [vR v1, vI (xs ((v4 + 1 : Int32)).toNatClampNeg), vR v3]) (st := []) E lkw_L_79 (C_L_place (xl X) X.1 v1 (xs ((v4 + 1 : Int32)).toNatClampNeg) v3 (ov b ρ μ) _ _ hc) rfl rfl (by rw [hR]; decide) (by rw [hR]; exact ⟨show kc + 6 ≤ 601024 by omega, show ks + 52 ≤ 7293034 by omega⟩) (Nat.le_of_ble_eq_true rfl) dL_law_144 (fun m9 hm9 => ?_)
          rw [show m9 = ov b ρ m144 from hm9.trans hov.symm]
          refine wm_pick (lv' := [(0, vR (some sb)), (1, vR v1), (2, vR (some b)), (3, vR v3), (4, vI v4)]) [0, 1, 2, 3, 4] rfl ?_
          refine wm_widen (k := kc + 8) (n := ks + 205) (by omega) (by omega) ?_
          exact lw_147 E hS hR hLR hLF (kc + 8) (ks + 205) (by omega) (by omega) (LB_23 xs L v1 v3 b n) (ih (kc + 8) (ks + 205) (by omega) (by omega)) v4 x144 (ρ) m144 h
        · simp only [List.mem_cons, Prod.mk.injEq, List.not_mem_nil, or_false] at hcd
          rcases hcd with ⟨rfl, rfl⟩ | ⟨rfl, rfl⟩
          · refine wm_cSW (As := [vR v1, vI (xs ((v4 + 1 : Int32)).toNatClampNeg), vR v3]) (st := []) E lkw_L_79 (X_L_place_0 (xl X) hLF X.1 v1 (xs ((v4 + 1 : Int32)).toNatClampNeg) v3 (ov b ρ μ) mx hrc hc) rfl rfl (by rw [hR]; decide) (by rw [hR]; exact ⟨show kc + 6 ≤ 601024 by omega, show ks + 52 ≤ 7293034 by omega⟩) (Nat.le_of_ble_eq_true rfl) dL_law_144 (fun m9 hm9 => ?_)
            obtain ⟨M9, hM9, rfl⟩ := hm9
            have h := h M9 hM9
            rw [ov_grow]
            refine wm_pick (lv' := [(0, vR (some sb)), (1, vR v1), (2, vR (some b)), (3, vR v3), (4, vI v4)]) [0, 1, 2, 3, 4] rfl ?_
            refine wm_widen (k := kc + 8) (n := ks + 205) (by omega) (by omega) ?_
            exact lw_147 E hS hR hLR hLF (kc + 8) (ks + 205) (by omega) (by omega) (LB_23 xs L v1 v3 b n) (ih (kc + 8) (ks + 205) (by omega) (by omega)) v4 1 (ρ) ((m_grow μ M9)) h
          · refine wm_cSW (As := [vR v1, vI (xs ((v4 + 1 : Int32)).toNatClampNeg), vR v3]) (st := []) E lkw_L_79 (X_L_place_1 (xl X) hLF X.1 v1 (xs ((v4 + 1 : Int32)).toNatClampNeg) v3 (ov b ρ μ) mx hrc hc) rfl rfl (by rw [hR]; decide) (by rw [hR]; exact ⟨show kc + 6 ≤ 601024 by omega, show ks + 52 ≤ 7293034 by omega⟩) (Nat.le_of_ble_eq_true rfl) dL_law_144 (fun m9 hm9 => ?_)
            obtain ⟨M9, hM9, rfl⟩ := hm9
            have h := h M9 hM9
            rw [ov_grow]
            refine wm_pick (lv' := [(0, vR (some sb)), (1, vR v1), (2, vR (some b)), (3, vR v3), (4, vI v4)]) [0, 1, 2, 3, 4] rfl ?_
            refine wm_widen (k := kc + 8) (n := ks + 205) (by omega) (by omega) ?_
            exact lw_147 E hS hR hLR hLF (kc + 8) (ks + 205) (by omega) (by omega) (LB_23 xs L v1 v3 b n) (ih (kc + 8) (ks + 205) (by omega) (by omega)) v4 2 (ρ) ((m_grow μ M9)) h
      · have h := h.2 c0
        by_cases c1 : ((xs ((v4 : Int32)).toNatClampNeg) &&& 31) = 1
        · have h := h.1 c1
          refine wm_tabIn (tgt := 192) E dL_law_40 (1) ((congrArg Int32.toInt c1).trans (by decide)) (by decide) (by decide) rfl (by decide) ?_
          refine wm_aload_n E dL_law_192 rfl (j := 1) rfl ?_
          refine wm_aload_n E dL_law_193 rfl (j := 0) rfl ?_
          refine wm_iload E dL_law_194 (j := 4) rfl ?_
          refine wm_iconst (x := 1) E dL_law_196 (by decide) ?_
          refine wm_iadd E dL_law_197 ?_
          obtain ⟨hi198, h⟩ := h
          refine wm_sld E hS hi198 dL_law_198 ?_
          refine wm_aload_n E dL_law_199 rfl (j := 0) rfl ?_
          refine wm_iload E dL_law_200 (j := 4) rfl ?_
          refine wm_iconst (x := 2) E dL_law_202 (by decide) ?_
          refine wm_iadd E dL_law_203 ?_
          obtain ⟨hi204, h⟩ := h
          refine wm_sld E hS hi204 dL_law_204 ?_
          refine wm_aload_n E dL_law_205 rfl (j := 3) rfl ?_
          rcases h with ⟨x206, m206, hc, hov, h⟩ | ⟨ex, mx, k9, hc, hrc, hcd, h⟩
          · refine wm_cSW (As := [vR v1, vI (xs ((v4 + 1 : Int32)).toNatClampNeg), vI (xs ((v4 + 2 : Int32)).toNatClampNeg), vR v3]) (st := []) E lkw_L_89 (C_L_corner (xl X) X.1 v1 (xs ((v4 + 1 : Int32)).toNatClampNeg) (xs ((v4 + 2 : Int32)).toNatClampNeg) v3 (ov b ρ μ) _ _ hc) rfl rfl (by rw [hR]; decide) (by rw [hR]; exact ⟨show kc + 1 ≤ 601024 by omega, show ks + 6 ≤ 7293034 by omega⟩) (Nat.le_of_ble_eq_true rfl) dL_law_206 (fun m9 hm9 => ?_)
            rw [show m9 = ov b ρ m206 from hm9.trans hov.symm]
            refine wm_pick (lv' := [(0, vR (some sb)), (1, vR v1), (2, vR (some b)), (3, vR v3), (4, vI v4)]) [0, 1, 2, 3, 4] rfl ?_
            refine wm_widen (k := kc + 8) (n := ks + 205) (by omega) (by omega) ?_
            exact lw_209 E hS hR hLR hLF (kc + 8) (ks + 205) (by omega) (by omega) (LB_23 xs L v1 v3 b n) (ih (kc + 8) (ks + 205) (by omega) (by omega)) v4 x206 (ρ) m206 h
          · simp only [List.mem_cons, Prod.mk.injEq, List.not_mem_nil, or_false] at hcd
            rcases hcd with ⟨rfl, rfl⟩ | ⟨rfl, rfl⟩
            · refine wm_cSW (As := [vR v1, vI (xs ((v4 + 1 : Int32)).toNatClampNeg), vI (xs ((v4 + 2 : Int32)).toNatClampNeg), vR v3]) (st := []) E lkw_L_89 (X_L_corner_0 (xl X) hLF X.1 v1 (xs ((v4 + 1 : Int32)).toNatClampNeg) (xs ((v4 + 2 : Int32)).toNatClampNeg) v3 (ov b ρ μ) mx hrc hc) rfl rfl (by rw [hR]; decide) (by rw [hR]; exact ⟨show kc + 1 ≤ 601024 by omega, show ks + 6 ≤ 7293034 by omega⟩) (Nat.le_of_ble_eq_true rfl) dL_law_206 (fun m9 hm9 => ?_)
              obtain ⟨M9, hM9, rfl⟩ := hm9
              have h := h M9 hM9
              rw [ov_grow]
              refine wm_pick (lv' := [(0, vR (some sb)), (1, vR v1), (2, vR (some b)), (3, vR v3), (4, vI v4)]) [0, 1, 2, 3, 4] rfl ?_
              refine wm_widen (k := kc + 8) (n := ks + 205) (by omega) (by omega) ?_
              exact lw_209 E hS hR hLR hLF (kc + 8) (ks + 205) (by omega) (by omega) (LB_23 xs L v1 v3 b n) (ih (kc + 8) (ks + 205) (by omega) (by omega)) v4 1 (ρ) ((m_grow μ M9)) h
            · refine wm_cSW (As := [vR v1, vI (xs ((v4 + 1 : Int32)).toNatClampNeg), vI (xs ((v4 + 2 : Int32)).toNatClampNeg), vR v3]) (st := []) E lkw_L_89 (X_L_corner_1 (xl X) hLF X.1 v1 (xs ((v4 + 1 : Int32)).toNatClampNeg) (xs ((v4 + 2 : Int32)).toNatClampNeg) v3 (ov b ρ μ) mx hrc hc) rfl rfl (by rw [hR]; decide) (by rw [hR]; exact ⟨show kc + 1 ≤ 601024 by omega, show ks + 6 ≤ 7293034 by omega⟩) (Nat.le_of_ble_eq_true rfl) dL_law_206 (fun m9 hm9 => ?_)
              obtain ⟨M9, hM9, rfl⟩ := hm9
              have h := h M9 hM9
              rw [ov_grow]
              refine wm_pick (lv' := [(0, vR (some sb)), (1, vR v1), (2, vR (some b)), (3, vR v3), (4, vI v4)]) [0, 1, 2, 3, 4] rfl ?_
              refine wm_widen (k := kc + 8) (n := ks + 205) (by omega) (by omega) ?_
              exact lw_209 E hS hR hLR hLF (kc + 8) (ks + 205) (by omega) (by omega) (LB_23 xs L v1 v3 b n) (ih (kc + 8) (ks + 205) (by omega) (by omega)) v4 2 (ρ) ((m_grow μ M9)) h
        · have h := h.2 c1
          by_cases c2 : ((xs ((v4 : Int32)).toNatClampNeg) &&& 31) = 2
          · have h := h.1 c2
            refine wm_tabIn (tgt := 260) E dL_law_40 (2) ((congrArg Int32.toInt c2).trans (by decide)) (by decide) (by decide) rfl (by decide) ?_
            refine wm_aload_n E dL_law_260 rfl (j := 1) rfl ?_
            refine wm_aload_n E dL_law_261 rfl (j := 0) rfl ?_
            refine wm_iload E dL_law_262 (j := 4) rfl ?_
            refine wm_iconst (x := 1) E dL_law_264 (by decide) ?_
            refine wm_iadd E dL_law_265 ?_
            obtain ⟨hi266, h⟩ := h
            refine wm_sld E hS hi266 dL_law_266 ?_
            refine wm_aload_n E dL_law_267 rfl (j := 0) rfl ?_
            refine wm_iload E dL_law_268 (j := 4) rfl ?_
            refine wm_iconst (x := 2) E dL_law_270 (by decide) ?_
            refine wm_iadd E dL_law_271 ?_
            obtain ⟨hi272, h⟩ := h
            refine wm_sld E hS hi272 dL_law_272 ?_
            rcases h with ⟨x273, m273, hc, hov, h⟩ | ⟨ex, mx, k9, hc, hrc, hcd, h⟩
            · refine wm_cSW (As := [vR v1, vI (xs ((v4 + 1 : Int32)).toNatClampNeg), vI (xs ((v4 + 2 : Int32)).toNatClampNeg)]) (st := []) E lkw_L_93 (C_L_shape (xl X) X.1 v1 (xs ((v4 + 1 : Int32)).toNatClampNeg) (xs ((v4 + 2 : Int32)).toNatClampNeg) (ov b ρ μ) _ _ hc) rfl rfl (by rw [hR]; decide) (by rw [hR]; exact ⟨show kc + 4 ≤ 601024 by omega, show ks + 52 ≤ 7293034 by omega⟩) (Nat.le_of_ble_eq_true rfl) dL_law_273 (fun m9 hm9 => ?_)
              rw [show m9 = ov b ρ m273 from hm9.trans hov.symm]
              refine wm_pick (lv' := [(0, vR (some sb)), (1, vR v1), (2, vR (some b)), (3, vR v3), (4, vI v4)]) [0, 1, 2, 3, 4] rfl ?_
              refine wm_widen (k := kc + 8) (n := ks + 205) (by omega) (by omega) ?_
              exact lw_276 E hS hR hLR hLF (kc + 8) (ks + 205) (by omega) (by omega) (LB_23 xs L v1 v3 b n) (ih (kc + 8) (ks + 205) (by omega) (by omega)) v4 x273 (ρ) m273 h
            · simp only [List.mem_cons, Prod.mk.injEq, List.not_mem_nil, or_false] at hcd
              rcases hcd with ⟨rfl, rfl⟩ | ⟨rfl, rfl⟩
              · refine wm_cSW (As := [vR v1, vI (xs ((v4 + 1 : Int32)).toNatClampNeg), vI (xs ((v4 + 2 : Int32)).toNatClampNeg)]) (st := []) E lkw_L_93 (X_L_shape_0 (xl X) hLF X.1 v1 (xs ((v4 + 1 : Int32)).toNatClampNeg) (xs ((v4 + 2 : Int32)).toNatClampNeg) (ov b ρ μ) mx hrc hc) rfl rfl (by rw [hR]; decide) (by rw [hR]; exact ⟨show kc + 4 ≤ 601024 by omega, show ks + 52 ≤ 7293034 by omega⟩) (Nat.le_of_ble_eq_true rfl) dL_law_273 (fun m9 hm9 => ?_)
                obtain ⟨M9, hM9, rfl⟩ := hm9
                have h := h M9 hM9
                rw [ov_grow]
                refine wm_pick (lv' := [(0, vR (some sb)), (1, vR v1), (2, vR (some b)), (3, vR v3), (4, vI v4)]) [0, 1, 2, 3, 4] rfl ?_
                refine wm_widen (k := kc + 8) (n := ks + 205) (by omega) (by omega) ?_
                exact lw_276 E hS hR hLR hLF (kc + 8) (ks + 205) (by omega) (by omega) (LB_23 xs L v1 v3 b n) (ih (kc + 8) (ks + 205) (by omega) (by omega)) v4 1 (ρ) ((m_grow μ M9)) h
              · refine wm_cSW (As := [vR v1, vI (xs ((v4 + 1 : Int32)).toNatClampNeg), vI (xs ((v4 + 2 : Int32)).toNatClampNeg)]) (st := []) E lkw_L_93 (X_L_shape_1 (xl X) hLF X.1 v1 (xs ((v4 + 1 : Int32)).toNatClampNeg) (xs ((v4 + 2 : Int32)).toNatClampNeg) (ov b ρ μ) mx hrc hc) rfl rfl (by rw [hR]; decide) (by rw [hR]; exact ⟨show kc + 4 ≤ 601024 by omega, show ks + 52 ≤ 7293034 by omega⟩) (Nat.le_of_ble_eq_true rfl) dL_law_273 (fun m9 hm9 => ?_)
                obtain ⟨M9, hM9, rfl⟩ := hm9
                have h := h M9 hM9
                rw [ov_grow]
                refine wm_pick (lv' := [(0, vR (some sb)), (1, vR v1), (2, vR (some b)), (3, vR v3), (4, vI v4)]) [0, 1, 2, 3, 4] rfl ?_
                refine wm_widen (k := kc + 8) (n := ks + 205) (by omega) (by omega) ?_
                exact lw_276 E hS hR hLR hLF (kc + 8) (ks + 205) (by omega) (by omega) (LB_23 xs L v1 v3 b n) (ih (kc + 8) (ks + 205) (by omega) (by omega)) v4 2 (ρ) ((m_grow μ M9)) h
          · have h := h.2 c2
            by_cases c3 : ((xs ((v4 : Int32)).toNatClampNeg) &&& 31) = 3
            · have h := h.1 c3
              refine wm_tabIn (tgt := 308) E dL_law_40 (3) ((congrArg Int32.toInt c3).trans (by decide)) (by decide) (by decide) rfl (by decide) ?_
              refine wm_aload_n E dL_law_308 rfl (j := 1) rfl ?_
              obtain ⟨x309, m309, hc309, hr309, hov, h⟩ := h
              refine wm_cV (ci := 11) (As := []) (st := []) E lk_L_97 rfl im_P_route sl_P_route hr309 (C_P_route (xl X) X.1 v1 (ov b ρ μ) _ _ hc309) rfl rfl (by rw [hR]; decide) (by rw [hR]; exact ⟨show kc + 3 ≤ 601024 by omega, show ks + 19 ≤ 7293034 by omega⟩) (Nat.le_of_ble_eq_true rfl) dL_law_309 ?_
              rw [← hov]
              refine wm_aload_n E dL_law_312 rfl (j := 2) rfl ?_
              obtain ⟨x313, ρ313, hc313, hW313, h⟩ := h
              refine wm_cV (ci := 12) (As := []) (st := []) E lk_L_100 rfl im_M_route sl_M_route (ov_rc _ _ _) (RC_M_route (xl X) X.1 b ρ m309 hW313  _ _ hc313) rfl rfl (by rw [hR]; decide) (by rw [hR]; exact ⟨show (kc + 3) + 0 ≤ 601024 by omega, show (ks + 19) + 0 ≤ 7293034 by omega⟩) (Nat.le_of_ble_eq_true rfl) dL_law_313 ?_
              refine wm_goto (tgt := 1268) E dL_law_316 (by decide) ?_
              refine wm_pick (lv' := [(0, vR (some sb)), (1, vR v1), (2, vR (some b)), (3, vR v3), (4, vI v4)]) [0, 1, 2, 3, 4] rfl ?_
              refine wm_widen (k := kc + 8) (n := ks + 205) (by omega) (by omega) ?_
              exact lw_1268 E hS hR hLR hLF (kc + 8) (ks + 205) (by omega) (by omega) (LB_23 xs L v1 v3 b n) (ih (kc + 8) (ks + 205) (by omega) (by omega)) v4 (ρ313) m309 h
            · have h := h.2 c3
              by_cases c4 : ((xs ((v4 : Int32)).toNatClampNeg) &&& 31) = 4
              · have h := h.1 c4
                refine wm_tabIn (tgt := 319) E dL_law_40 (4) ((congrArg Int32.toInt c4).trans (by decide)) (by decide) (by decide) rfl (by decide) ?_
                refine wm_aload_n E dL_law_319 rfl (j := 1) rfl ?_
                refine wm_aload_n E dL_law_320 rfl (j := 0) rfl ?_
                refine wm_iload E dL_law_321 (j := 4) rfl ?_
                refine wm_iconst (x := 1) E dL_law_323 (by decide) ?_
                refine wm_iadd E dL_law_324 ?_
                obtain ⟨hi325, h⟩ := h
                refine wm_sld E hS hi325 dL_law_325 ?_
                obtain ⟨x326, m326, hc326, hr326, hov, h⟩ := h
                refine wm_cV (ci := 11) (As := [vI (xs ((v4 + 1 : Int32)).toNatClampNeg)]) (st := []) E lk_L_101 rfl im_P_letter sl_P_letter hr326 (C_P_letter (xl X) X.1 v1 (xs ((v4 + 1 : Int32)).toNatClampNeg) (ov b ρ μ) _ _ hc326) rfl rfl (by rw [hR]; decide) (by rw [hR]; exact ⟨show kc + 0 ≤ 601024 by omega, show ks + 0 ≤ 7293034 by omega⟩) (Nat.le_of_ble_eq_true rfl) dL_law_326 ?_
                rw [← hov]
                refine wm_aload_n E dL_law_329 rfl (j := 2) rfl ?_
                refine wm_aload_n E dL_law_330 rfl (j := 0) rfl ?_
                refine wm_iload E dL_law_331 (j := 4) rfl ?_
                refine wm_iconst (x := 1) E dL_law_333 (by decide) ?_
                refine wm_iadd E dL_law_334 ?_
                obtain ⟨hi335, h⟩ := h
                refine wm_sld E hS hi335 dL_law_335 ?_
                obtain ⟨x336, ρ336, hc336, hW336, h⟩ := h
                refine wm_cV (ci := 12) (As := [vI (xs ((v4 + 1 : Int32)).toNatClampNeg)]) (st := [vI x326]) E lk_L_105 rfl im_M_letter sl_M_letter (ov_rc _ _ _) (RC_M_letter (xl X) X.1 b ρ m326 hW336 (xs ((v4 + 1 : Int32)).toNatClampNeg) _ _ hc336) rfl rfl (by rw [hR]; decide) (by rw [hR]; exact ⟨show kc + 0 ≤ 601024 by omega, show ks + 0 ≤ 7293034 by omega⟩) (Nat.le_of_ble_eq_true rfl) dL_law_336 ?_
                refine wm_icmp_eq (tgt := 1268) E dL_law_339 (by decide) (fun c339 => ?_) (fun c339 => ?_)
                · have h := h.1 c339
                  refine wm_pick (lv' := [(0, vR (some sb)), (1, vR v1), (2, vR (some b)), (3, vR v3), (4, vI v4)]) [0, 1, 2, 3, 4] rfl ?_
                  refine wm_widen (k := kc + 8) (n := ks + 205) (by omega) (by omega) ?_
                  exact lw_1268 E hS hR hLR hLF (kc + 8) (ks + 205) (by omega) (by omega) (LB_23 xs L v1 v3 b n) (ih (kc + 8) (ks + 205) (by omega) (by omega)) v4 (ρ336) m326 h
                · have h := h.2 c339
                  refine wm_iconst (x := 0) E dL_law_342 (by decide) ?_
                  exact wm_lawret hLR h (by omega) (by omega) dL_law_343
              · have h := h.2 c4
                by_cases c5 : ((xs ((v4 : Int32)).toNatClampNeg) &&& 31) = 5
                · have h := h.1 c5
                  refine wm_tabIn (tgt := 344) E dL_law_40 (5) ((congrArg Int32.toInt c5).trans (by decide)) (by decide) (by decide) rfl (by decide) ?_
                  refine wm_aload_n E dL_law_344 rfl (j := 1) rfl ?_
                  refine wm_aload_n E dL_law_345 rfl (j := 0) rfl ?_
                  refine wm_iload E dL_law_346 (j := 4) rfl ?_
                  refine wm_iconst (x := 1) E dL_law_348 (by decide) ?_
                  refine wm_iadd E dL_law_349 ?_
                  obtain ⟨hi350, h⟩ := h
                  refine wm_sld E hS hi350 dL_law_350 ?_
                  refine wm_aload_n E dL_law_351 rfl (j := 0) rfl ?_
                  refine wm_iload E dL_law_352 (j := 4) rfl ?_
                  refine wm_iconst (x := 2) E dL_law_354 (by decide) ?_
                  refine wm_iadd E dL_law_355 ?_
                  obtain ⟨hi356, h⟩ := h
                  refine wm_sld E hS hi356 dL_law_356 ?_
                  refine wm_aload_n E dL_law_357 rfl (j := 0) rfl ?_
                  refine wm_iload E dL_law_358 (j := 4) rfl ?_
                  refine wm_iconst (x := 3) E dL_law_360 (by decide) ?_
                  refine wm_iadd E dL_law_361 ?_
                  obtain ⟨hi362, h⟩ := h
                  refine wm_sld E hS hi362 dL_law_362 ?_
                  rcases h with ⟨x363, m363, hc, hov, h⟩ | ⟨ex, mx, k9, hc, hrc, hcd, h⟩
                  · refine wm_cSW (As := [vR v1, vI (xs ((v4 + 1 : Int32)).toNatClampNeg), vI (xs ((v4 + 2 : Int32)).toNatClampNeg), vI (xs ((v4 + 3 : Int32)).toNatClampNeg)]) (st := []) E lkw_L_106 (C_L_name (xl X) X.1 v1 (xs ((v4 + 1 : Int32)).toNatClampNeg) (xs ((v4 + 2 : Int32)).toNatClampNeg) (xs ((v4 + 3 : Int32)).toNatClampNeg) (ov b ρ μ) _ _ hc) rfl rfl (by rw [hR]; decide) (by rw [hR]; exact ⟨show kc + 4 ≤ 601024 by omega, show ks + 48 ≤ 7293034 by omega⟩) (Nat.le_of_ble_eq_true rfl) dL_law_363 (fun m9 hm9 => ?_)
                    rw [show m9 = ov b ρ m363 from hm9.trans hov.symm]
                    refine wm_pick (lv' := [(0, vR (some sb)), (1, vR v1), (2, vR (some b)), (3, vR v3), (4, vI v4)]) [0, 1, 2, 3, 4] rfl ?_
                    refine wm_widen (k := kc + 8) (n := ks + 205) (by omega) (by omega) ?_
                    exact lw_366 E hS hR hLR hLF (kc + 8) (ks + 205) (by omega) (by omega) (LB_23 xs L v1 v3 b n) (ih (kc + 8) (ks + 205) (by omega) (by omega)) v4 x363 (ρ) m363 h
                  · simp only [List.mem_cons, Prod.mk.injEq, List.not_mem_nil, or_false] at hcd
                    rcases hcd with ⟨rfl, rfl⟩ | ⟨rfl, rfl⟩
                    · refine wm_cSW (As := [vR v1, vI (xs ((v4 + 1 : Int32)).toNatClampNeg), vI (xs ((v4 + 2 : Int32)).toNatClampNeg), vI (xs ((v4 + 3 : Int32)).toNatClampNeg)]) (st := []) E lkw_L_106 (X_L_name_0 (xl X) hLF X.1 v1 (xs ((v4 + 1 : Int32)).toNatClampNeg) (xs ((v4 + 2 : Int32)).toNatClampNeg) (xs ((v4 + 3 : Int32)).toNatClampNeg) (ov b ρ μ) mx hrc hc) rfl rfl (by rw [hR]; decide) (by rw [hR]; exact ⟨show kc + 4 ≤ 601024 by omega, show ks + 48 ≤ 7293034 by omega⟩) (Nat.le_of_ble_eq_true rfl) dL_law_363 (fun m9 hm9 => ?_)
                      obtain ⟨M9, hM9, rfl⟩ := hm9
                      have h := h M9 hM9
                      rw [ov_grow]
                      refine wm_pick (lv' := [(0, vR (some sb)), (1, vR v1), (2, vR (some b)), (3, vR v3), (4, vI v4)]) [0, 1, 2, 3, 4] rfl ?_
                      refine wm_widen (k := kc + 8) (n := ks + 205) (by omega) (by omega) ?_
                      exact lw_366 E hS hR hLR hLF (kc + 8) (ks + 205) (by omega) (by omega) (LB_23 xs L v1 v3 b n) (ih (kc + 8) (ks + 205) (by omega) (by omega)) v4 1 (ρ) ((m_grow μ M9)) h
                    · refine wm_cSW (As := [vR v1, vI (xs ((v4 + 1 : Int32)).toNatClampNeg), vI (xs ((v4 + 2 : Int32)).toNatClampNeg), vI (xs ((v4 + 3 : Int32)).toNatClampNeg)]) (st := []) E lkw_L_106 (X_L_name_1 (xl X) hLF X.1 v1 (xs ((v4 + 1 : Int32)).toNatClampNeg) (xs ((v4 + 2 : Int32)).toNatClampNeg) (xs ((v4 + 3 : Int32)).toNatClampNeg) (ov b ρ μ) mx hrc hc) rfl rfl (by rw [hR]; decide) (by rw [hR]; exact ⟨show kc + 4 ≤ 601024 by omega, show ks + 48 ≤ 7293034 by omega⟩) (Nat.le_of_ble_eq_true rfl) dL_law_363 (fun m9 hm9 => ?_)
                      obtain ⟨M9, hM9, rfl⟩ := hm9
                      have h := h M9 hM9
                      rw [ov_grow]
                      refine wm_pick (lv' := [(0, vR (some sb)), (1, vR v1), (2, vR (some b)), (3, vR v3), (4, vI v4)]) [0, 1, 2, 3, 4] rfl ?_
                      refine wm_widen (k := kc + 8) (n := ks + 205) (by omega) (by omega) ?_
                      exact lw_366 E hS hR hLR hLF (kc + 8) (ks + 205) (by omega) (by omega) (LB_23 xs L v1 v3 b n) (ih (kc + 8) (ks + 205) (by omega) (by omega)) v4 2 (ρ) ((m_grow μ M9)) h
                · have h := h.2 c5
                  by_cases c6 : ((xs ((v4 : Int32)).toNatClampNeg) &&& 31) = 6
                  · have h := h.1 c6
                    refine wm_tabIn (tgt := 404) E dL_law_40 (6) ((congrArg Int32.toInt c6).trans (by decide)) (by decide) (by decide) rfl (by decide) ?_
                    refine wm_aload_n E dL_law_404 rfl (j := 1) rfl ?_
                    refine wm_aload_n E dL_law_405 rfl (j := 0) rfl ?_
                    refine wm_iload E dL_law_406 (j := 4) rfl ?_
                    refine wm_iconst (x := 1) E dL_law_408 (by decide) ?_
                    refine wm_iadd E dL_law_409 ?_
                    obtain ⟨hi410, h⟩ := h
                    refine wm_sld E hS hi410 dL_law_410 ?_
                    refine wm_aload_n E dL_law_411 rfl (j := 0) rfl ?_
                    refine wm_iload E dL_law_412 (j := 4) rfl ?_
                    refine wm_iconst (x := 2) E dL_law_414 (by decide) ?_
                    refine wm_iadd E dL_law_415 ?_
                    obtain ⟨hi416, h⟩ := h
                    refine wm_sld E hS hi416 dL_law_416 ?_
                    refine wm_aload_n E dL_law_417 rfl (j := 0) rfl ?_
                    refine wm_iload E dL_law_418 (j := 4) rfl ?_
                    refine wm_iconst (x := 3) E dL_law_420 (by decide) ?_
                    refine wm_iadd E dL_law_421 ?_
                    obtain ⟨hi422, h⟩ := h
                    refine wm_sld E hS hi422 dL_law_422 ?_
                    refine wm_aload_n E dL_law_423 rfl (j := 0) rfl ?_
                    refine wm_iload E dL_law_424 (j := 4) rfl ?_
                    refine wm_iconst (x := 4) E dL_law_426 (by decide) ?_
                    refine wm_iadd E dL_law_427 ?_
                    obtain ⟨hi428, h⟩ := h
                    refine wm_sld E hS hi428 dL_law_428 ?_
                    rcases h with ⟨x429, m429, hc, hov, h⟩ | ⟨ex, mx, k9, hc, hrc, hcd, h⟩
                    · refine wm_cSW (As := [vR v1, vI (xs ((v4 + 1 : Int32)).toNatClampNeg), vI (xs ((v4 + 2 : Int32)).toNatClampNeg), vI (xs ((v4 + 3 : Int32)).toNatClampNeg), vI (xs ((v4 + 4 : Int32)).toNatClampNeg)]) (st := []) E lkw_L_110 (C_L_parent (xl X) X.1 v1 (xs ((v4 + 1 : Int32)).toNatClampNeg) (xs ((v4 + 2 : Int32)).toNatClampNeg) (xs ((v4 + 3 : Int32)).toNatClampNeg) (xs ((v4 + 4 : Int32)).toNatClampNeg) (ov b ρ μ) _ _ hc) rfl rfl (by rw [hR]; decide) (by rw [hR]; exact ⟨show kc + 2 ≤ 601024 by omega, show ks + 36 ≤ 7293034 by omega⟩) (Nat.le_of_ble_eq_true rfl) dL_law_429 (fun m9 hm9 => ?_)
                      rw [show m9 = ov b ρ m429 from hm9.trans hov.symm]
                      refine wm_pick (lv' := [(0, vR (some sb)), (1, vR v1), (2, vR (some b)), (3, vR v3), (4, vI v4)]) [0, 1, 2, 3, 4] rfl ?_
                      refine wm_widen (k := kc + 8) (n := ks + 205) (by omega) (by omega) ?_
                      exact lw_432 E hS hR hLR hLF (kc + 8) (ks + 205) (by omega) (by omega) (LB_23 xs L v1 v3 b n) (ih (kc + 8) (ks + 205) (by omega) (by omega)) v4 x429 (ρ) m429 h
                    · simp only [List.mem_cons, Prod.mk.injEq, List.not_mem_nil, or_false] at hcd
                      rcases hcd with ⟨rfl, rfl⟩ | ⟨rfl, rfl⟩ | ⟨rfl, rfl⟩
                      · refine wm_cSW (As := [vR v1, vI (xs ((v4 + 1 : Int32)).toNatClampNeg), vI (xs ((v4 + 2 : Int32)).toNatClampNeg), vI (xs ((v4 + 3 : Int32)).toNatClampNeg), vI (xs ((v4 + 4 : Int32)).toNatClampNeg)]) (st := []) E lkw_L_110 (X_L_parent_0 (xl X) hLF X.1 v1 (xs ((v4 + 1 : Int32)).toNatClampNeg) (xs ((v4 + 2 : Int32)).toNatClampNeg) (xs ((v4 + 3 : Int32)).toNatClampNeg) (xs ((v4 + 4 : Int32)).toNatClampNeg) (ov b ρ μ) mx hrc hc) rfl rfl (by rw [hR]; decide) (by rw [hR]; exact ⟨show kc + 2 ≤ 601024 by omega, show ks + 36 ≤ 7293034 by omega⟩) (Nat.le_of_ble_eq_true rfl) dL_law_429 (fun m9 hm9 => ?_)
                        obtain ⟨M9, hM9, rfl⟩ := hm9
                        have h := h M9 hM9
                        rw [ov_grow]
                        refine wm_pick (lv' := [(0, vR (some sb)), (1, vR v1), (2, vR (some b)), (3, vR v3), (4, vI v4)]) [0, 1, 2, 3, 4] rfl ?_
                        refine wm_widen (k := kc + 8) (n := ks + 205) (by omega) (by omega) ?_
                        exact lw_432 E hS hR hLR hLF (kc + 8) (ks + 205) (by omega) (by omega) (LB_23 xs L v1 v3 b n) (ih (kc + 8) (ks + 205) (by omega) (by omega)) v4 1 (ρ) ((m_grow μ M9)) h
                      · refine wm_cSW (As := [vR v1, vI (xs ((v4 + 1 : Int32)).toNatClampNeg), vI (xs ((v4 + 2 : Int32)).toNatClampNeg), vI (xs ((v4 + 3 : Int32)).toNatClampNeg), vI (xs ((v4 + 4 : Int32)).toNatClampNeg)]) (st := []) E lkw_L_110 (X_L_parent_2 (xl X) hLF X.1 v1 (xs ((v4 + 1 : Int32)).toNatClampNeg) (xs ((v4 + 2 : Int32)).toNatClampNeg) (xs ((v4 + 3 : Int32)).toNatClampNeg) (xs ((v4 + 4 : Int32)).toNatClampNeg) (ov b ρ μ) mx hrc hc) rfl rfl (by rw [hR]; decide) (by rw [hR]; exact ⟨show kc + 2 ≤ 601024 by omega, show ks + 36 ≤ 7293034 by omega⟩) (Nat.le_of_ble_eq_true rfl) dL_law_429 (fun m9 hm9 => ?_)
                        obtain ⟨M9, hM9, rfl⟩ := hm9
                        have h := h M9 hM9
                        rw [ov_grow]
                        refine wm_pick (lv' := [(0, vR (some sb)), (1, vR v1), (2, vR (some b)), (3, vR v3), (4, vI v4)]) [0, 1, 2, 3, 4] rfl ?_
                        refine wm_widen (k := kc + 8) (n := ks + 205) (by omega) (by omega) ?_
                        exact lw_432 E hS hR hLR hLF (kc + 8) (ks + 205) (by omega) (by omega) (LB_23 xs L v1 v3 b n) (ih (kc + 8) (ks + 205) (by omega) (by omega)) v4 2 (ρ) ((m_grow μ M9)) h
                      · refine wm_cSW (As := [vR v1, vI (xs ((v4 + 1 : Int32)).toNatClampNeg), vI (xs ((v4 + 2 : Int32)).toNatClampNeg), vI (xs ((v4 + 3 : Int32)).toNatClampNeg), vI (xs ((v4 + 4 : Int32)).toNatClampNeg)]) (st := []) E lkw_L_110 (X_L_parent_1 (xl X) hLF X.1 v1 (xs ((v4 + 1 : Int32)).toNatClampNeg) (xs ((v4 + 2 : Int32)).toNatClampNeg) (xs ((v4 + 3 : Int32)).toNatClampNeg) (xs ((v4 + 4 : Int32)).toNatClampNeg) (ov b ρ μ) mx hrc hc) rfl rfl (by rw [hR]; decide) (by rw [hR]; exact ⟨show kc + 2 ≤ 601024 by omega, show ks + 36 ≤ 7293034 by omega⟩) (Nat.le_of_ble_eq_true rfl) dL_law_429 (fun m9 hm9 => ?_)
                        obtain ⟨M9, hM9, rfl⟩ := hm9
                        have h := h M9 hM9
                        rw [ov_grow]
                        refine wm_pick (lv' := [(0, vR (some sb)), (1, vR v1), (2, vR (some b)), (3, vR v3), (4, vI v4)]) [0, 1, 2, 3, 4] rfl ?_
                        refine wm_widen (k := kc + 8) (n := ks + 205) (by omega) (by omega) ?_
                        exact lw_432 E hS hR hLR hLF (kc + 8) (ks + 205) (by omega) (by omega) (LB_23 xs L v1 v3 b n) (ih (kc + 8) (ks + 205) (by omega) (by omega)) v4 3 (ρ) ((m_grow μ M9)) h
                  · have h := h.2 c6
                    by_cases c7 : ((xs ((v4 : Int32)).toNatClampNeg) &&& 31) = 7
                    · have h := h.1 c7
                      refine wm_tabIn (tgt := 476) E dL_law_40 (7) ((congrArg Int32.toInt c7).trans (by decide)) (by decide) (by decide) rfl (by decide) ?_
                      refine wm_aload_n E dL_law_476 rfl (j := 1) rfl ?_
                      refine wm_aload_n E dL_law_477 rfl (j := 0) rfl ?_
                      refine wm_iload E dL_law_478 (j := 4) rfl ?_
                      refine wm_iconst (x := 1) E dL_law_480 (by decide) ?_
                      refine wm_iadd E dL_law_481 ?_
                      obtain ⟨hi482, h⟩ := h
                      refine wm_sld E hS hi482 dL_law_482 ?_
                      refine wm_aload_n E dL_law_483 rfl (j := 0) rfl ?_
                      refine wm_iload E dL_law_484 (j := 4) rfl ?_
                      refine wm_iconst (x := 2) E dL_law_486 (by decide) ?_
                      refine wm_iadd E dL_law_487 ?_
                      obtain ⟨hi488, h⟩ := h
                      refine wm_sld E hS hi488 dL_law_488 ?_
                      rcases h with ⟨x489, m489, hc, hov, h⟩ | ⟨ex, mx, k9, hc, hrc, hcd, h⟩
                      · refine wm_cSW (As := [vR v1, vI (xs ((v4 + 1 : Int32)).toNatClampNeg), vI (xs ((v4 + 2 : Int32)).toNatClampNeg)]) (st := []) E lkw_L_114 (C_L_remove (xl X) X.1 v1 (xs ((v4 + 1 : Int32)).toNatClampNeg) (xs ((v4 + 2 : Int32)).toNatClampNeg) (ov b ρ μ) _ _ hc) rfl rfl (by rw [hR]; decide) (by rw [hR]; exact ⟨show kc + 1 ≤ 601024 by omega, show ks + 6 ≤ 7293034 by omega⟩) (Nat.le_of_ble_eq_true rfl) dL_law_489 (fun m9 hm9 => ?_)
                        rw [show m9 = ov b ρ m489 from hm9.trans hov.symm]
                        refine wm_pick (lv' := [(0, vR (some sb)), (1, vR v1), (2, vR (some b)), (3, vR v3), (4, vI v4)]) [0, 1, 2, 3, 4] rfl ?_
                        refine wm_widen (k := kc + 8) (n := ks + 205) (by omega) (by omega) ?_
                        exact lw_492 E hS hR hLR hLF (kc + 8) (ks + 205) (by omega) (by omega) (LB_23 xs L v1 v3 b n) (ih (kc + 8) (ks + 205) (by omega) (by omega)) v4 x489 (ρ) m489 h
                      · simp only [List.mem_cons, Prod.mk.injEq, List.not_mem_nil, or_false] at hcd
                        rcases hcd with ⟨rfl, rfl⟩ | ⟨rfl, rfl⟩
                        · refine wm_cSW (As := [vR v1, vI (xs ((v4 + 1 : Int32)).toNatClampNeg), vI (xs ((v4 + 2 : Int32)).toNatClampNeg)]) (st := []) E lkw_L_114 (X_L_remove_0 (xl X) hLF X.1 v1 (xs ((v4 + 1 : Int32)).toNatClampNeg) (xs ((v4 + 2 : Int32)).toNatClampNeg) (ov b ρ μ) mx hrc hc) rfl rfl (by rw [hR]; decide) (by rw [hR]; exact ⟨show kc + 1 ≤ 601024 by omega, show ks + 6 ≤ 7293034 by omega⟩) (Nat.le_of_ble_eq_true rfl) dL_law_489 (fun m9 hm9 => ?_)
                          obtain ⟨M9, hM9, rfl⟩ := hm9
                          have h := h M9 hM9
                          rw [ov_grow]
                          refine wm_pick (lv' := [(0, vR (some sb)), (1, vR v1), (2, vR (some b)), (3, vR v3), (4, vI v4)]) [0, 1, 2, 3, 4] rfl ?_
                          refine wm_widen (k := kc + 8) (n := ks + 205) (by omega) (by omega) ?_
                          exact lw_492 E hS hR hLR hLF (kc + 8) (ks + 205) (by omega) (by omega) (LB_23 xs L v1 v3 b n) (ih (kc + 8) (ks + 205) (by omega) (by omega)) v4 1 (ρ) ((m_grow μ M9)) h
                        · refine wm_cSW (As := [vR v1, vI (xs ((v4 + 1 : Int32)).toNatClampNeg), vI (xs ((v4 + 2 : Int32)).toNatClampNeg)]) (st := []) E lkw_L_114 (X_L_remove_1 (xl X) hLF X.1 v1 (xs ((v4 + 1 : Int32)).toNatClampNeg) (xs ((v4 + 2 : Int32)).toNatClampNeg) (ov b ρ μ) mx hrc hc) rfl rfl (by rw [hR]; decide) (by rw [hR]; exact ⟨show kc + 1 ≤ 601024 by omega, show ks + 6 ≤ 7293034 by omega⟩) (Nat.le_of_ble_eq_true rfl) dL_law_489 (fun m9 hm9 => ?_)
                          obtain ⟨M9, hM9, rfl⟩ := hm9
                          have h := h M9 hM9
                          rw [ov_grow]
                          refine wm_pick (lv' := [(0, vR (some sb)), (1, vR v1), (2, vR (some b)), (3, vR v3), (4, vI v4)]) [0, 1, 2, 3, 4] rfl ?_
                          refine wm_widen (k := kc + 8) (n := ks + 205) (by omega) (by omega) ?_
                          exact lw_492 E hS hR hLR hLF (kc + 8) (ks + 205) (by omega) (by omega) (LB_23 xs L v1 v3 b n) (ih (kc + 8) (ks + 205) (by omega) (by omega)) v4 2 (ρ) ((m_grow μ M9)) h
                    · have h := h.2 c7
                      by_cases c8 : ((xs ((v4 : Int32)).toNatClampNeg) &&& 31) = 8
                      · have h := h.1 c8
                        refine wm_tabIn (tgt := 524) E dL_law_40 (8) ((congrArg Int32.toInt c8).trans (by decide)) (by decide) (by decide) rfl (by decide) ?_
                        refine wm_aload_n E dL_law_524 rfl (j := 1) rfl ?_
                        refine wm_aload_n E dL_law_525 rfl (j := 0) rfl ?_
                        refine wm_iload E dL_law_526 (j := 4) rfl ?_
                        refine wm_iconst (x := 1) E dL_law_528 (by decide) ?_
                        refine wm_iadd E dL_law_529 ?_
                        obtain ⟨hi530, h⟩ := h
                        refine wm_sld E hS hi530 dL_law_530 ?_
                        refine wm_aload_n E dL_law_531 rfl (j := 0) rfl ?_
                        refine wm_iload E dL_law_532 (j := 4) rfl ?_
                        refine wm_iconst (x := 2) E dL_law_534 (by decide) ?_
                        refine wm_iadd E dL_law_535 ?_
                        obtain ⟨hi536, h⟩ := h
                        refine wm_sld E hS hi536 dL_law_536 ?_
                        refine wm_aload_n E dL_law_537 rfl (j := 0) rfl ?_
                        refine wm_iload E dL_law_538 (j := 4) rfl ?_
                        refine wm_iconst (x := 3) E dL_law_540 (by decide) ?_
                        refine wm_iadd E dL_law_541 ?_
                        obtain ⟨hi542, h⟩ := h
                        refine wm_sld E hS hi542 dL_law_542 ?_
                        refine wm_aload_n E dL_law_543 rfl (j := 0) rfl ?_
                        refine wm_iload E dL_law_544 (j := 4) rfl ?_
                        refine wm_iconst (x := 4) E dL_law_546 (by decide) ?_
                        refine wm_iadd E dL_law_547 ?_
                        obtain ⟨hi548, h⟩ := h
                        refine wm_sld E hS hi548 dL_law_548 ?_
                        refine wm_aload_n E dL_law_549 rfl (j := 3) rfl ?_
                        rcases h with ⟨x550, m550, hc, hov, h⟩ | ⟨ex, mx, k9, hc, hrc, hcd, h⟩
                        · refine wm_cSW (As := [vR v1, vI (xs ((v4 + 1 : Int32)).toNatClampNeg), vI (xs ((v4 + 2 : Int32)).toNatClampNeg), vI (xs ((v4 + 3 : Int32)).toNatClampNeg), vI (xs ((v4 + 4 : Int32)).toNatClampNeg), vR v3]) (st := []) E lkw_L_117 (C_L_condition (xl X) X.1 v1 (xs ((v4 + 1 : Int32)).toNatClampNeg) (xs ((v4 + 2 : Int32)).toNatClampNeg) (xs ((v4 + 3 : Int32)).toNatClampNeg) (xs ((v4 + 4 : Int32)).toNatClampNeg) v3 (ov b ρ μ) _ _ hc) rfl rfl (by rw [hR]; decide) (by rw [hR]; exact ⟨show kc + 4 ≤ 601024 by omega, show ks + 50 ≤ 7293034 by omega⟩) (Nat.le_of_ble_eq_true rfl) dL_law_550 (fun m9 hm9 => ?_)
                          rw [show m9 = ov b ρ m550 from hm9.trans hov.symm]
                          refine wm_pick (lv' := [(0, vR (some sb)), (1, vR v1), (2, vR (some b)), (3, vR v3), (4, vI v4)]) [0, 1, 2, 3, 4] rfl ?_
                          refine wm_widen (k := kc + 8) (n := ks + 205) (by omega) (by omega) ?_
                          exact lw_553 E hS hR hLR hLF (kc + 8) (ks + 205) (by omega) (by omega) (LB_23 xs L v1 v3 b n) (ih (kc + 8) (ks + 205) (by omega) (by omega)) v4 x550 (ρ) m550 h
                        · simp only [List.mem_cons, Prod.mk.injEq, List.not_mem_nil, or_false] at hcd
                          rcases hcd with ⟨rfl, rfl⟩ | ⟨rfl, rfl⟩
                          · refine wm_cSW (As := [vR v1, vI (xs ((v4 + 1 : Int32)).toNatClampNeg), vI (xs ((v4 + 2 : Int32)).toNatClampNeg), vI (xs ((v4 + 3 : Int32)).toNatClampNeg), vI (xs ((v4 + 4 : Int32)).toNatClampNeg), vR v3]) (st := []) E lkw_L_117 (X_L_condition_0 (xl X) hLF X.1 v1 (xs ((v4 + 1 : Int32)).toNatClampNeg) (xs ((v4 + 2 : Int32)).toNatClampNeg) (xs ((v4 + 3 : Int32)).toNatClampNeg) (xs ((v4 + 4 : Int32)).toNatClampNeg) v3 (ov b ρ μ) mx hrc hc) rfl rfl (by rw [hR]; decide) (by rw [hR]; exact ⟨show kc + 4 ≤ 601024 by omega, show ks + 50 ≤ 7293034 by omega⟩) (Nat.le_of_ble_eq_true rfl) dL_law_550 (fun m9 hm9 => ?_)
                            obtain ⟨M9, hM9, rfl⟩ := hm9
                            have h := h M9 hM9
                            rw [ov_grow]
                            refine wm_pick (lv' := [(0, vR (some sb)), (1, vR v1), (2, vR (some b)), (3, vR v3), (4, vI v4)]) [0, 1, 2, 3, 4] rfl ?_
                            refine wm_widen (k := kc + 8) (n := ks + 205) (by omega) (by omega) ?_
                            exact lw_553 E hS hR hLR hLF (kc + 8) (ks + 205) (by omega) (by omega) (LB_23 xs L v1 v3 b n) (ih (kc + 8) (ks + 205) (by omega) (by omega)) v4 1 (ρ) ((m_grow μ M9)) h
                          · refine wm_cSW (As := [vR v1, vI (xs ((v4 + 1 : Int32)).toNatClampNeg), vI (xs ((v4 + 2 : Int32)).toNatClampNeg), vI (xs ((v4 + 3 : Int32)).toNatClampNeg), vI (xs ((v4 + 4 : Int32)).toNatClampNeg), vR v3]) (st := []) E lkw_L_117 (X_L_condition_1 (xl X) hLF X.1 v1 (xs ((v4 + 1 : Int32)).toNatClampNeg) (xs ((v4 + 2 : Int32)).toNatClampNeg) (xs ((v4 + 3 : Int32)).toNatClampNeg) (xs ((v4 + 4 : Int32)).toNatClampNeg) v3 (ov b ρ μ) mx hrc hc) rfl rfl (by rw [hR]; decide) (by rw [hR]; exact ⟨show kc + 4 ≤ 601024 by omega, show ks + 50 ≤ 7293034 by omega⟩) (Nat.le_of_ble_eq_true rfl) dL_law_550 (fun m9 hm9 => ?_)
                            obtain ⟨M9, hM9, rfl⟩ := hm9
                            have h := h M9 hM9
                            rw [ov_grow]
                            refine wm_pick (lv' := [(0, vR (some sb)), (1, vR v1), (2, vR (some b)), (3, vR v3), (4, vI v4)]) [0, 1, 2, 3, 4] rfl ?_
                            refine wm_widen (k := kc + 8) (n := ks + 205) (by omega) (by omega) ?_
                            exact lw_553 E hS hR hLR hLF (kc + 8) (ks + 205) (by omega) (by omega) (LB_23 xs L v1 v3 b n) (ih (kc + 8) (ks + 205) (by omega) (by omega)) v4 2 (ρ) ((m_grow μ M9)) h
                      · have h := h.2 c8
                        by_cases c9 : ((xs ((v4 : Int32)).toNatClampNeg) &&& 31) = 9
                        · have h := h.1 c9
                          refine wm_tabIn (tgt := 616) E dL_law_40 (9) ((congrArg Int32.toInt c9).trans (by decide)) (by decide) (by decide) rfl (by decide) ?_
                          refine wm_aload_n E dL_law_616 rfl (j := 1) rfl ?_
                          obtain ⟨x617, m617, hc617, hr617, hov, h⟩ := h
                          refine wm_cV (ci := 11) (As := []) (st := []) E lk_L_121 rfl im_P_clear sl_P_clear hr617 (C_P_clear (xl X) X.1 v1 (ov b ρ μ) _ _ hc617) rfl rfl (by rw [hR]; decide) (by rw [hR]; exact ⟨show kc + 0 ≤ 601024 by omega, show ks + 0 ≤ 7293034 by omega⟩) (Nat.le_of_ble_eq_true rfl) dL_law_617 ?_
                          rw [← hov]
                          refine wm_aload_n E dL_law_620 rfl (j := 2) rfl ?_
                          obtain ⟨x621, ρ621, hc621, hW621, h⟩ := h
                          refine wm_cV (ci := 12) (As := []) (st := []) E lk_L_124 rfl im_M_clear sl_M_clear (ov_rc _ _ _) (RC_M_clear (xl X) X.1 b ρ m617 hW621  _ _ hc621) rfl rfl (by rw [hR]; decide) (by rw [hR]; exact ⟨show kc + 0 ≤ 601024 by omega, show ks + 0 ≤ 7293034 by omega⟩) (Nat.le_of_ble_eq_true rfl) dL_law_621 ?_
                          refine wm_goto (tgt := 1268) E dL_law_624 (by decide) ?_
                          refine wm_pick (lv' := [(0, vR (some sb)), (1, vR v1), (2, vR (some b)), (3, vR v3), (4, vI v4)]) [0, 1, 2, 3, 4] rfl ?_
                          refine wm_widen (k := kc + 8) (n := ks + 205) (by omega) (by omega) ?_
                          exact lw_1268 E hS hR hLR hLF (kc + 8) (ks + 205) (by omega) (by omega) (LB_23 xs L v1 v3 b n) (ih (kc + 8) (ks + 205) (by omega) (by omega)) v4 (ρ621) m617 h
                        · have h := h.2 c9
                          by_cases c10 : ((xs ((v4 : Int32)).toNatClampNeg) &&& 31) = 10
                          · have h := h.1 c10
                            refine wm_tabIn (tgt := 627) E dL_law_40 (10) ((congrArg Int32.toInt c10).trans (by decide)) (by decide) (by decide) rfl (by decide) ?_
                            refine wm_aload_n E dL_law_627 rfl (j := 1) rfl ?_
                            refine wm_aload_n E dL_law_628 rfl (j := 0) rfl ?_
                            refine wm_iload E dL_law_629 (j := 4) rfl ?_
                            refine wm_iconst (x := 1) E dL_law_631 (by decide) ?_
                            refine wm_iadd E dL_law_632 ?_
                            obtain ⟨hi633, h⟩ := h
                            refine wm_sld E hS hi633 dL_law_633 ?_
                            refine wm_aload_n E dL_law_634 rfl (j := 0) rfl ?_
                            refine wm_iload E dL_law_635 (j := 4) rfl ?_
                            refine wm_iconst (x := 2) E dL_law_637 (by decide) ?_
                            refine wm_iadd E dL_law_638 ?_
                            obtain ⟨hi639, h⟩ := h
                            refine wm_sld E hS hi639 dL_law_639 ?_
                            refine wm_aload_n E dL_law_640 rfl (j := 3) rfl ?_
                            rcases h with ⟨x641, m641, hc, hov, h⟩ | ⟨ex, mx, k9, hc, hrc, hcd, h⟩
                            · refine wm_cSW (As := [vR v1, vI (xs ((v4 + 1 : Int32)).toNatClampNeg), vI (xs ((v4 + 2 : Int32)).toNatClampNeg), vR v3]) (st := []) E lkw_L_125 (C_L_find (xl X) X.1 v1 (xs ((v4 + 1 : Int32)).toNatClampNeg) (xs ((v4 + 2 : Int32)).toNatClampNeg) v3 (ov b ρ μ) _ _ hc) rfl rfl (by rw [hR]; decide) (by rw [hR]; exact ⟨show kc + 1 ≤ 601024 by omega, show ks + 6 ≤ 7293034 by omega⟩) (Nat.le_of_ble_eq_true rfl) dL_law_641 (fun m9 hm9 => ?_)
                              rw [show m9 = ov b ρ m641 from hm9.trans hov.symm]
                              refine wm_pick (lv' := [(0, vR (some sb)), (1, vR v1), (2, vR (some b)), (3, vR v3), (4, vI v4)]) [0, 1, 2, 3, 4] rfl ?_
                              refine wm_widen (k := kc + 8) (n := ks + 205) (by omega) (by omega) ?_
                              exact lw_644 E hS hR hLR hLF (kc + 8) (ks + 205) (by omega) (by omega) (LB_23 xs L v1 v3 b n) (ih (kc + 8) (ks + 205) (by omega) (by omega)) v4 x641 (ρ) m641 h
                            · simp only [List.mem_cons, Prod.mk.injEq, List.not_mem_nil, or_false] at hcd
                              obtain ⟨rfl, rfl⟩ := hcd
                              refine wm_cSW (As := [vR v1, vI (xs ((v4 + 1 : Int32)).toNatClampNeg), vI (xs ((v4 + 2 : Int32)).toNatClampNeg), vR v3]) (st := []) E lkw_L_125 (X_L_find_0 (xl X) hLF X.1 v1 (xs ((v4 + 1 : Int32)).toNatClampNeg) (xs ((v4 + 2 : Int32)).toNatClampNeg) v3 (ov b ρ μ) mx hrc hc) rfl rfl (by rw [hR]; decide) (by rw [hR]; exact ⟨show kc + 1 ≤ 601024 by omega, show ks + 6 ≤ 7293034 by omega⟩) (Nat.le_of_ble_eq_true rfl) dL_law_641 (fun m9 hm9 => ?_)
                              obtain ⟨M9, hM9, rfl⟩ := hm9
                              have h := h M9 hM9
                              rw [ov_grow]
                              refine wm_pick (lv' := [(0, vR (some sb)), (1, vR v1), (2, vR (some b)), (3, vR v3), (4, vI v4)]) [0, 1, 2, 3, 4] rfl ?_
                              refine wm_widen (k := kc + 8) (n := ks + 205) (by omega) (by omega) ?_
                              exact lw_644 E hS hR hLR hLF (kc + 8) (ks + 205) (by omega) (by omega) (LB_23 xs L v1 v3 b n) (ih (kc + 8) (ks + 205) (by omega) (by omega)) v4 1 (ρ) ((m_grow μ M9)) h
                          · have h := h.2 c10
                            by_cases c11 : ((xs ((v4 : Int32)).toNatClampNeg) &&& 31) = 11
                            · have h := h.1 c11
                              refine wm_tabIn (tgt := 695) E dL_law_40 (11) ((congrArg Int32.toInt c11).trans (by decide)) (by decide) (by decide) rfl (by decide) ?_
                              refine wm_aload_n E dL_law_695 rfl (j := 1) rfl ?_
                              refine wm_aload_n E dL_law_696 rfl (j := 0) rfl ?_
                              refine wm_iload E dL_law_697 (j := 4) rfl ?_
                              refine wm_iconst (x := 1) E dL_law_699 (by decide) ?_
                              refine wm_iadd E dL_law_700 ?_
                              obtain ⟨hi701, h⟩ := h
                              refine wm_sld E hS hi701 dL_law_701 ?_
                              refine wm_aload_n E dL_law_702 rfl (j := 0) rfl ?_
                              refine wm_iload E dL_law_703 (j := 4) rfl ?_
                              refine wm_iconst (x := 2) E dL_law_705 (by decide) ?_
                              refine wm_iadd E dL_law_706 ?_
                              obtain ⟨hi707, h⟩ := h
                              refine wm_sld E hS hi707 dL_law_707 ?_
                              refine wm_aload_n E dL_law_708 rfl (j := 0) rfl ?_
                              refine wm_iload E dL_law_709 (j := 4) rfl ?_
                              refine wm_iconst (x := 3) E dL_law_711 (by decide) ?_
                              refine wm_iadd E dL_law_712 ?_
                              obtain ⟨hi713, h⟩ := h
                              refine wm_sld E hS hi713 dL_law_713 ?_
                              refine wm_aload_n E dL_law_714 rfl (j := 0) rfl ?_
                              refine wm_iload E dL_law_715 (j := 4) rfl ?_
                              refine wm_iconst (x := 4) E dL_law_717 (by decide) ?_
                              refine wm_iadd E dL_law_718 ?_
                              obtain ⟨hi719, h⟩ := h
                              refine wm_sld E hS hi719 dL_law_719 ?_
                              refine wm_aload_n E dL_law_720 rfl (j := 0) rfl ?_
                              refine wm_iload E dL_law_721 (j := 4) rfl ?_
                              refine wm_iconst (x := 5) E dL_law_723 (by decide) ?_
                              refine wm_iadd E dL_law_724 ?_
                              obtain ⟨hi725, h⟩ := h
                              refine wm_sld E hS hi725 dL_law_725 ?_
                              refine wm_aload_n E dL_law_726 rfl (j := 3) rfl ?_
                              rcases h with ⟨x727, m727, hc, hov, h⟩ | ⟨ex, mx, k9, hc, hrc, hcd, h⟩
                              · refine wm_cSW (As := [vR v1, vI (xs ((v4 + 1 : Int32)).toNatClampNeg), vI (xs ((v4 + 2 : Int32)).toNatClampNeg), vI (xs ((v4 + 3 : Int32)).toNatClampNeg), vI (xs ((v4 + 4 : Int32)).toNatClampNeg), vI (xs ((v4 + 5 : Int32)).toNatClampNeg), vR v3]) (st := []) E lkw_L_128 (C_L_near (xl X) X.1 v1 (xs ((v4 + 1 : Int32)).toNatClampNeg) (xs ((v4 + 2 : Int32)).toNatClampNeg) (xs ((v4 + 3 : Int32)).toNatClampNeg) (xs ((v4 + 4 : Int32)).toNatClampNeg) (xs ((v4 + 5 : Int32)).toNatClampNeg) v3 (ov b ρ μ) _ _ hc) rfl rfl (by rw [hR]; decide) (by rw [hR]; exact ⟨show kc + 1 ≤ 601024 by omega, show ks + 6 ≤ 7293034 by omega⟩) (Nat.le_of_ble_eq_true rfl) dL_law_727 (fun m9 hm9 => ?_)
                                rw [show m9 = ov b ρ m727 from hm9.trans hov.symm]
                                refine wm_pick (lv' := [(0, vR (some sb)), (1, vR v1), (2, vR (some b)), (3, vR v3), (4, vI v4)]) [0, 1, 2, 3, 4] rfl ?_
                                refine wm_widen (k := kc + 8) (n := ks + 205) (by omega) (by omega) ?_
                                exact lw_730 E hS hR hLR hLF (kc + 8) (ks + 205) (by omega) (by omega) (LB_23 xs L v1 v3 b n) (ih (kc + 8) (ks + 205) (by omega) (by omega)) v4 x727 (ρ) m727 h
                              · simp only [List.mem_cons, Prod.mk.injEq, List.not_mem_nil, or_false] at hcd
                                obtain ⟨rfl, rfl⟩ := hcd
                                refine wm_cSW (As := [vR v1, vI (xs ((v4 + 1 : Int32)).toNatClampNeg), vI (xs ((v4 + 2 : Int32)).toNatClampNeg), vI (xs ((v4 + 3 : Int32)).toNatClampNeg), vI (xs ((v4 + 4 : Int32)).toNatClampNeg), vI (xs ((v4 + 5 : Int32)).toNatClampNeg), vR v3]) (st := []) E lkw_L_128 (X_L_near_0 (xl X) hLF X.1 v1 (xs ((v4 + 1 : Int32)).toNatClampNeg) (xs ((v4 + 2 : Int32)).toNatClampNeg) (xs ((v4 + 3 : Int32)).toNatClampNeg) (xs ((v4 + 4 : Int32)).toNatClampNeg) (xs ((v4 + 5 : Int32)).toNatClampNeg) v3 (ov b ρ μ) mx hrc hc) rfl rfl (by rw [hR]; decide) (by rw [hR]; exact ⟨show kc + 1 ≤ 601024 by omega, show ks + 6 ≤ 7293034 by omega⟩) (Nat.le_of_ble_eq_true rfl) dL_law_727 (fun m9 hm9 => ?_)
                                obtain ⟨M9, hM9, rfl⟩ := hm9
                                have h := h M9 hM9
                                rw [ov_grow]
                                refine wm_pick (lv' := [(0, vR (some sb)), (1, vR v1), (2, vR (some b)), (3, vR v3), (4, vI v4)]) [0, 1, 2, 3, 4] rfl ?_
                                refine wm_widen (k := kc + 8) (n := ks + 205) (by omega) (by omega) ?_
                                exact lw_730 E hS hR hLR hLF (kc + 8) (ks + 205) (by omega) (by omega) (LB_23 xs L v1 v3 b n) (ih (kc + 8) (ks + 205) (by omega) (by omega)) v4 1 (ρ) ((m_grow μ M9)) h
                            · have h := h.2 c11
                              by_cases c12 : ((xs ((v4 : Int32)).toNatClampNeg) &&& 31) = 12
                              · have h := h.1 c12
                                refine wm_tabIn (tgt := 799) E dL_law_40 (12) ((congrArg Int32.toInt c12).trans (by decide)) (by decide) (by decide) rfl (by decide) ?_
                                refine wm_aload_n E dL_law_799 rfl (j := 1) rfl ?_
                                refine wm_aload_n E dL_law_800 rfl (j := 0) rfl ?_
                                refine wm_iload E dL_law_801 (j := 4) rfl ?_
                                refine wm_iconst (x := 1) E dL_law_803 (by decide) ?_
                                refine wm_iadd E dL_law_804 ?_
                                obtain ⟨hi805, h⟩ := h
                                refine wm_sld E hS hi805 dL_law_805 ?_
                                refine wm_aload_n E dL_law_806 rfl (j := 3) rfl ?_
                                rcases h with ⟨x807, m807, hc, hov, h⟩ | ⟨ex, mx, k9, hc, hrc, hcd, h⟩
                                · refine wm_cSW (As := [vR v1, vI (xs ((v4 + 1 : Int32)).toNatClampNeg), vR v3]) (st := []) E lkw_L_132 (C_L_hit (xl X) X.1 v1 (xs ((v4 + 1 : Int32)).toNatClampNeg) v3 (ov b ρ μ) _ _ hc) rfl rfl (by rw [hR]; decide) (by rw [hR]; exact ⟨show kc + 1 ≤ 601024 by omega, show ks + 6 ≤ 7293034 by omega⟩) (Nat.le_of_ble_eq_true rfl) dL_law_807 (fun m9 hm9 => ?_)
                                  rw [show m9 = ov b ρ m807 from hm9.trans hov.symm]
                                  refine wm_pick (lv' := [(0, vR (some sb)), (1, vR v1), (2, vR (some b)), (3, vR v3), (4, vI v4)]) [0, 1, 2, 3, 4] rfl ?_
                                  refine wm_widen (k := kc + 8) (n := ks + 205) (by omega) (by omega) ?_
                                  exact lw_810 E hS hR hLR hLF (kc + 8) (ks + 205) (by omega) (by omega) (LB_23 xs L v1 v3 b n) (ih (kc + 8) (ks + 205) (by omega) (by omega)) v4 x807 (ρ) m807 h
                                · simp only [List.mem_cons, Prod.mk.injEq, List.not_mem_nil, or_false] at hcd
                                  obtain ⟨rfl, rfl⟩ := hcd
                                  refine wm_cSW (As := [vR v1, vI (xs ((v4 + 1 : Int32)).toNatClampNeg), vR v3]) (st := []) E lkw_L_132 (X_L_hit_3 (xl X) hLF X.1 v1 (xs ((v4 + 1 : Int32)).toNatClampNeg) v3 (ov b ρ μ) mx hrc hc) rfl rfl (by rw [hR]; decide) (by rw [hR]; exact ⟨show kc + 1 ≤ 601024 by omega, show ks + 6 ≤ 7293034 by omega⟩) (Nat.le_of_ble_eq_true rfl) dL_law_807 (fun m9 hm9 => ?_)
                                  obtain ⟨M9, hM9, rfl⟩ := hm9
                                  have h := h M9 hM9
                                  rw [ov_grow]
                                  refine wm_pick (lv' := [(0, vR (some sb)), (1, vR v1), (2, vR (some b)), (3, vR v3), (4, vI v4)]) [0, 1, 2, 3, 4] rfl ?_
                                  refine wm_widen (k := kc + 8) (n := ks + 205) (by omega) (by omega) ?_
                                  exact lw_810 E hS hR hLR hLF (kc + 8) (ks + 205) (by omega) (by omega) (LB_23 xs L v1 v3 b n) (ih (kc + 8) (ks + 205) (by omega) (by omega)) v4 1 (ρ) ((m_grow μ M9)) h
                              · have h := h.2 c12
                                by_cases c13 : ((xs ((v4 : Int32)).toNatClampNeg) &&& 31) = 13
                                · have h := h.1 c13
                                  refine wm_tabIn (tgt := 855) E dL_law_40 (13) ((congrArg Int32.toInt c13).trans (by decide)) (by decide) (by decide) rfl (by decide) ?_
                                  refine wm_aload_n E dL_law_855 rfl (j := 1) rfl ?_
                                  refine wm_aload_n E dL_law_856 rfl (j := 0) rfl ?_
                                  refine wm_iload E dL_law_857 (j := 4) rfl ?_
                                  refine wm_iconst (x := 1) E dL_law_859 (by decide) ?_
                                  refine wm_iadd E dL_law_860 ?_
                                  obtain ⟨hi861, h⟩ := h
                                  refine wm_sld E hS hi861 dL_law_861 ?_
                                  refine wm_aload_n E dL_law_862 rfl (j := 0) rfl ?_
                                  refine wm_iload E dL_law_863 (j := 4) rfl ?_
                                  refine wm_iconst (x := 2) E dL_law_865 (by decide) ?_
                                  refine wm_iadd E dL_law_866 ?_
                                  obtain ⟨hi867, h⟩ := h
                                  refine wm_sld E hS hi867 dL_law_867 ?_
                                  refine wm_aload_n E dL_law_868 rfl (j := 0) rfl ?_
                                  refine wm_iload E dL_law_869 (j := 4) rfl ?_
                                  refine wm_iconst (x := 3) E dL_law_871 (by decide) ?_
                                  refine wm_iadd E dL_law_872 ?_
                                  obtain ⟨hi873, h⟩ := h
                                  refine wm_sld E hS hi873 dL_law_873 ?_
                                  refine wm_aload_n E dL_law_874 rfl (j := 3) rfl ?_
                                  rcases h with ⟨x875, m875, hc, hov, h⟩ | ⟨ex, mx, k9, hc, hrc, hcd, h⟩
                                  · refine wm_cSW (As := [vR v1, vI (xs ((v4 + 1 : Int32)).toNatClampNeg), vI (xs ((v4 + 2 : Int32)).toNatClampNeg), vI (xs ((v4 + 3 : Int32)).toNatClampNeg), vR v3]) (st := []) E lkw_L_135 (C_L_chain (xl X) X.1 v1 (xs ((v4 + 1 : Int32)).toNatClampNeg) (xs ((v4 + 2 : Int32)).toNatClampNeg) (xs ((v4 + 3 : Int32)).toNatClampNeg) v3 (ov b ρ μ) _ _ hc) rfl rfl (by rw [hR]; decide) (by rw [hR]; exact ⟨show kc + 1 ≤ 601024 by omega, show ks + 6 ≤ 7293034 by omega⟩) (Nat.le_of_ble_eq_true rfl) dL_law_875 (fun m9 hm9 => ?_)
                                    rw [show m9 = ov b ρ m875 from hm9.trans hov.symm]
                                    refine wm_pick (lv' := [(0, vR (some sb)), (1, vR v1), (2, vR (some b)), (3, vR v3), (4, vI v4)]) [0, 1, 2, 3, 4] rfl ?_
                                    refine wm_widen (k := kc + 8) (n := ks + 205) (by omega) (by omega) ?_
                                    exact lw_878 E hS hR hLR hLF (kc + 8) (ks + 205) (by omega) (by omega) (LB_23 xs L v1 v3 b n) (ih (kc + 8) (ks + 205) (by omega) (by omega)) v4 x875 (ρ) m875 h
                                  · simp only [List.mem_cons, Prod.mk.injEq, List.not_mem_nil, or_false] at hcd
                                    obtain ⟨rfl, rfl⟩ := hcd
                                    refine wm_cSW (As := [vR v1, vI (xs ((v4 + 1 : Int32)).toNatClampNeg), vI (xs ((v4 + 2 : Int32)).toNatClampNeg), vI (xs ((v4 + 3 : Int32)).toNatClampNeg), vR v3]) (st := []) E lkw_L_135 (X_L_chain_0 (xl X) hLF X.1 v1 (xs ((v4 + 1 : Int32)).toNatClampNeg) (xs ((v4 + 2 : Int32)).toNatClampNeg) (xs ((v4 + 3 : Int32)).toNatClampNeg) v3 (ov b ρ μ) mx hrc hc) rfl rfl (by rw [hR]; decide) (by rw [hR]; exact ⟨show kc + 1 ≤ 601024 by omega, show ks + 6 ≤ 7293034 by omega⟩) (Nat.le_of_ble_eq_true rfl) dL_law_875 (fun m9 hm9 => ?_)
                                    obtain ⟨M9, hM9, rfl⟩ := hm9
                                    have h := h M9 hM9
                                    rw [ov_grow]
                                    refine wm_pick (lv' := [(0, vR (some sb)), (1, vR v1), (2, vR (some b)), (3, vR v3), (4, vI v4)]) [0, 1, 2, 3, 4] rfl ?_
                                    refine wm_widen (k := kc + 8) (n := ks + 205) (by omega) (by omega) ?_
                                    exact lw_878 E hS hR hLR hLF (kc + 8) (ks + 205) (by omega) (by omega) (LB_23 xs L v1 v3 b n) (ih (kc + 8) (ks + 205) (by omega) (by omega)) v4 1 (ρ) ((m_grow μ M9)) h
                                · have h := h.2 c13
                                  by_cases c14 : ((xs ((v4 : Int32)).toNatClampNeg) &&& 31) = 14
                                  · have h := h.1 c14
                                    refine wm_tabIn (tgt := 935) E dL_law_40 (14) ((congrArg Int32.toInt c14).trans (by decide)) (by decide) (by decide) rfl (by decide) ?_
                                    refine wm_aload_n E dL_law_935 rfl (j := 1) rfl ?_
                                    refine wm_aload_n E dL_law_936 rfl (j := 0) rfl ?_
                                    refine wm_iload E dL_law_937 (j := 4) rfl ?_
                                    refine wm_iconst (x := 1) E dL_law_939 (by decide) ?_
                                    refine wm_iadd E dL_law_940 ?_
                                    obtain ⟨hi941, h⟩ := h
                                    refine wm_sld E hS hi941 dL_law_941 ?_
                                    refine wm_aload_n E dL_law_942 rfl (j := 0) rfl ?_
                                    refine wm_iload E dL_law_943 (j := 4) rfl ?_
                                    refine wm_iconst (x := 2) E dL_law_945 (by decide) ?_
                                    refine wm_iadd E dL_law_946 ?_
                                    obtain ⟨hi947, h⟩ := h
                                    refine wm_sld E hS hi947 dL_law_947 ?_
                                    refine wm_aload_n E dL_law_948 rfl (j := 0) rfl ?_
                                    refine wm_iload E dL_law_949 (j := 4) rfl ?_
                                    refine wm_iconst (x := 3) E dL_law_951 (by decide) ?_
                                    refine wm_iadd E dL_law_952 ?_
                                    obtain ⟨hi953, h⟩ := h
                                    refine wm_sld E hS hi953 dL_law_953 ?_
                                    refine wm_aload_n E dL_law_954 rfl (j := 0) rfl ?_
                                    refine wm_iload E dL_law_955 (j := 4) rfl ?_
                                    refine wm_iconst (x := 4) E dL_law_957 (by decide) ?_
                                    refine wm_iadd E dL_law_958 ?_
                                    obtain ⟨hi959, h⟩ := h
                                    refine wm_sld E hS hi959 dL_law_959 ?_
                                    refine wm_aload_n E dL_law_960 rfl (j := 3) rfl ?_
                                    rcases h with ⟨x961, m961, hc, hov, h⟩ | ⟨ex, mx, k9, hc, hrc, hcd, h⟩
                                    · refine wm_cSW (As := [vR v1, vI (xs ((v4 + 1 : Int32)).toNatClampNeg), vI (xs ((v4 + 2 : Int32)).toNatClampNeg), vI (xs ((v4 + 3 : Int32)).toNatClampNeg), vI (xs ((v4 + 4 : Int32)).toNatClampNeg), vR v3]) (st := []) E lkw_L_139 (C_L_holds (xl X) X.1 v1 (xs ((v4 + 1 : Int32)).toNatClampNeg) (xs ((v4 + 2 : Int32)).toNatClampNeg) (xs ((v4 + 3 : Int32)).toNatClampNeg) (xs ((v4 + 4 : Int32)).toNatClampNeg) v3 (ov b ρ μ) _ _ hc) rfl rfl (by rw [hR]; decide) (by rw [hR]; exact ⟨show kc + 1 ≤ 601024 by omega, show ks + 6 ≤ 7293034 by omega⟩) (Nat.le_of_ble_eq_true rfl) dL_law_961 (fun m9 hm9 => ?_)
                                      rw [show m9 = ov b ρ m961 from hm9.trans hov.symm]
                                      refine wm_pick (lv' := [(0, vR (some sb)), (1, vR v1), (2, vR (some b)), (3, vR v3), (4, vI v4)]) [0, 1, 2, 3, 4] rfl ?_
                                      refine wm_widen (k := kc + 8) (n := ks + 205) (by omega) (by omega) ?_
                                      exact lw_964 E hS hR hLR hLF (kc + 8) (ks + 205) (by omega) (by omega) (LB_23 xs L v1 v3 b n) (ih (kc + 8) (ks + 205) (by omega) (by omega)) v4 x961 (ρ) m961 h
                                    · simp only [List.mem_cons, Prod.mk.injEq, List.not_mem_nil, or_false] at hcd
                                      obtain ⟨rfl, rfl⟩ := hcd
                                      refine wm_cSW (As := [vR v1, vI (xs ((v4 + 1 : Int32)).toNatClampNeg), vI (xs ((v4 + 2 : Int32)).toNatClampNeg), vI (xs ((v4 + 3 : Int32)).toNatClampNeg), vI (xs ((v4 + 4 : Int32)).toNatClampNeg), vR v3]) (st := []) E lkw_L_139 (X_L_holds_0 (xl X) hLF X.1 v1 (xs ((v4 + 1 : Int32)).toNatClampNeg) (xs ((v4 + 2 : Int32)).toNatClampNeg) (xs ((v4 + 3 : Int32)).toNatClampNeg) (xs ((v4 + 4 : Int32)).toNatClampNeg) v3 (ov b ρ μ) mx hrc hc) rfl rfl (by rw [hR]; decide) (by rw [hR]; exact ⟨show kc + 1 ≤ 601024 by omega, show ks + 6 ≤ 7293034 by omega⟩) (Nat.le_of_ble_eq_true rfl) dL_law_961 (fun m9 hm9 => ?_)
                                      obtain ⟨M9, hM9, rfl⟩ := hm9
                                      have h := h M9 hM9
                                      rw [ov_grow]
                                      refine wm_pick (lv' := [(0, vR (some sb)), (1, vR v1), (2, vR (some b)), (3, vR v3), (4, vI v4)]) [0, 1, 2, 3, 4] rfl ?_
                                      refine wm_widen (k := kc + 8) (n := ks + 205) (by omega) (by omega) ?_
                                      exact lw_964 E hS hR hLR hLF (kc + 8) (ks + 205) (by omega) (by omega) (LB_23 xs L v1 v3 b n) (ih (kc + 8) (ks + 205) (by omega) (by omega)) v4 1 (ρ) ((m_grow μ M9)) h
                                  · have h := h.2 c14
                                    by_cases c15 : ((xs ((v4 : Int32)).toNatClampNeg) &&& 31) = 15
                                    · have h := h.1 c15
                                      refine wm_tabIn (tgt := 1027) E dL_law_40 (15) ((congrArg Int32.toInt c15).trans (by decide)) (by decide) (by decide) rfl (by decide) ?_
                                      refine wm_aload_n E dL_law_1027 rfl (j := 1) rfl ?_
                                      obtain ⟨x1028, m1028, hc1028, hr1028, hov, h⟩ := h
                                      refine wm_cV (ci := 11) (As := []) (st := []) E lk_L_142 rfl im_P_sound sl_P_sound hr1028 (C_P_sound (xl X) X.1 v1 (ov b ρ μ) _ _ hc1028) rfl rfl (by rw [hR]; decide) (by rw [hR]; exact ⟨show kc + 2 ≤ 601024 by omega, show ks + 12 ≤ 7293034 by omega⟩) (Nat.le_of_ble_eq_true rfl) dL_law_1028 ?_
                                      rw [← hov]
                                      refine wm_aload_n E dL_law_1031 rfl (j := 2) rfl ?_
                                      obtain ⟨x1032, ρ1032, hc1032, hW1032, h⟩ := h
                                      refine wm_cV (ci := 12) (As := []) (st := [vI x1028]) E lk_L_145 rfl im_M_sound sl_M_sound (ov_rc _ _ _) (RC_M_sound (xl X) X.1 b ρ m1028 hW1032  _ _ hc1032) rfl rfl (by rw [hR]; decide) (by rw [hR]; exact ⟨show (kc + 2) + 0 ≤ 601024 by omega, show (ks + 12) + 0 ≤ 7293034 by omega⟩) (Nat.le_of_ble_eq_true rfl) dL_law_1032 ?_
                                      refine wm_icmp_eq (tgt := 1268) E dL_law_1035 (by decide) (fun c1035 => ?_) (fun c1035 => ?_)
                                      · have h := h.1 c1035
                                        refine wm_pick (lv' := [(0, vR (some sb)), (1, vR v1), (2, vR (some b)), (3, vR v3), (4, vI v4)]) [0, 1, 2, 3, 4] rfl ?_
                                        refine wm_widen (k := kc + 8) (n := ks + 205) (by omega) (by omega) ?_
                                        exact lw_1268 E hS hR hLR hLF (kc + 8) (ks + 205) (by omega) (by omega) (LB_23 xs L v1 v3 b n) (ih (kc + 8) (ks + 205) (by omega) (by omega)) v4 (ρ1032) m1028 h
                                      · have h := h.2 c1035
                                        refine wm_iconst (x := 0) E dL_law_1038 (by decide) ?_
                                        exact wm_lawret hLR h (by omega) (by omega) dL_law_1039
                                    · have h := h.2 c15
                                      by_cases c16 : ((xs ((v4 : Int32)).toNatClampNeg) &&& 31) = 16
                                      · have h := h.1 c16
                                        refine wm_tabIn (tgt := 1040) E dL_law_40 (16) ((congrArg Int32.toInt c16).trans (by decide)) (by decide) (by decide) rfl (by decide) ?_
                                        refine wm_aload_n E dL_law_1040 rfl (j := 1) rfl ?_
                                        refine wm_aload_n E dL_law_1041 rfl (j := 0) rfl ?_
                                        refine wm_iload E dL_law_1042 (j := 4) rfl ?_
                                        refine wm_iconst (x := 1) E dL_law_1044 (by decide) ?_
                                        refine wm_iadd E dL_law_1045 ?_
                                        obtain ⟨hi1046, h⟩ := h
                                        refine wm_sld E hS hi1046 dL_law_1046 ?_
                                        refine wm_aload_n E dL_law_1047 rfl (j := 0) rfl ?_
                                        refine wm_iload E dL_law_1048 (j := 4) rfl ?_
                                        refine wm_iconst (x := 2) E dL_law_1050 (by decide) ?_
                                        refine wm_iadd E dL_law_1051 ?_
                                        obtain ⟨hi1052, h⟩ := h
                                        refine wm_sld E hS hi1052 dL_law_1052 ?_
                                        refine wm_aload_n E dL_law_1053 rfl (j := 3) rfl ?_
                                        rcases h with ⟨x1054, m1054, hc, hov, h⟩ | ⟨ex, mx, k9, hc, hrc, hcd, h⟩
                                        · refine wm_cSW (As := [vR v1, vI (xs ((v4 + 1 : Int32)).toNatClampNeg), vI (xs ((v4 + 2 : Int32)).toNatClampNeg), vR v3]) (st := []) E lkw_L_146 (C_L_errors (xl X) X.1 v1 (xs ((v4 + 1 : Int32)).toNatClampNeg) (xs ((v4 + 2 : Int32)).toNatClampNeg) v3 (ov b ρ μ) _ _ hc) rfl rfl (by rw [hR]; decide) (by rw [hR]; exact ⟨show kc + 2 ≤ 601024 by omega, show ks + 12 ≤ 7293034 by omega⟩) (Nat.le_of_ble_eq_true rfl) dL_law_1054 (fun m9 hm9 => ?_)
                                          rw [show m9 = ov b ρ m1054 from hm9.trans hov.symm]
                                          refine wm_pick (lv' := [(0, vR (some sb)), (1, vR v1), (2, vR (some b)), (3, vR v3), (4, vI v4)]) [0, 1, 2, 3, 4] rfl ?_
                                          refine wm_widen (k := kc + 8) (n := ks + 205) (by omega) (by omega) ?_
                                          exact lw_1057 E hS hR hLR hLF (kc + 8) (ks + 205) (by omega) (by omega) (LB_23 xs L v1 v3 b n) (ih (kc + 8) (ks + 205) (by omega) (by omega)) v4 x1054 (ρ) m1054 h
                                        · simp only [List.mem_cons, Prod.mk.injEq, List.not_mem_nil, or_false] at hcd
                                          obtain ⟨rfl, rfl⟩ := hcd
                                          refine wm_cSW (As := [vR v1, vI (xs ((v4 + 1 : Int32)).toNatClampNeg), vI (xs ((v4 + 2 : Int32)).toNatClampNeg), vR v3]) (st := []) E lkw_L_146 (X_L_errors_4 (xl X) hLF X.1 v1 (xs ((v4 + 1 : Int32)).toNatClampNeg) (xs ((v4 + 2 : Int32)).toNatClampNeg) v3 (ov b ρ μ) mx hrc hc) rfl rfl (by rw [hR]; decide) (by rw [hR]; exact ⟨show kc + 2 ≤ 601024 by omega, show ks + 12 ≤ 7293034 by omega⟩) (Nat.le_of_ble_eq_true rfl) dL_law_1054 (fun m9 hm9 => ?_)
                                          obtain ⟨M9, hM9, rfl⟩ := hm9
                                          have h := h M9 hM9
                                          rw [ov_grow]
                                          refine wm_pick (lv' := [(0, vR (some sb)), (1, vR v1), (2, vR (some b)), (3, vR v3), (4, vI v4)]) [0, 1, 2, 3, 4] rfl ?_
                                          refine wm_widen (k := kc + 8) (n := ks + 205) (by omega) (by omega) ?_
                                          exact lw_1057 E hS hR hLR hLF (kc + 8) (ks + 205) (by omega) (by omega) (LB_23 xs L v1 v3 b n) (ih (kc + 8) (ks + 205) (by omega) (by omega)) v4 1 (ρ) ((m_grow μ M9)) h
                                      · have h := h.2 c16
                                        by_cases c17 : ((xs ((v4 : Int32)).toNatClampNeg) &&& 31) = 17
                                        · have h := h.1 c17
                                          refine wm_tabIn (tgt := 1108) E dL_law_40 (17) ((congrArg Int32.toInt c17).trans (by decide)) (by decide) (by decide) rfl (by decide) ?_
                                          refine wm_aload_n E dL_law_1108 rfl (j := 1) rfl ?_
                                          refine wm_aload_n E dL_law_1109 rfl (j := 0) rfl ?_
                                          refine wm_iload E dL_law_1110 (j := 4) rfl ?_
                                          refine wm_iconst (x := 1) E dL_law_1112 (by decide) ?_
                                          refine wm_iadd E dL_law_1113 ?_
                                          obtain ⟨hi1114, h⟩ := h
                                          refine wm_sld E hS hi1114 dL_law_1114 ?_
                                          refine wm_aload_n E dL_law_1115 rfl (j := 0) rfl ?_
                                          refine wm_iload E dL_law_1116 (j := 4) rfl ?_
                                          refine wm_iconst (x := 2) E dL_law_1118 (by decide) ?_
                                          refine wm_iadd E dL_law_1119 ?_
                                          obtain ⟨hi1120, h⟩ := h
                                          refine wm_sld E hS hi1120 dL_law_1120 ?_
                                          rcases h with ⟨x1121, m1121, hc, hov, h⟩ | ⟨ex, mx, k9, hc, hrc, hcd, h⟩
                                          · refine wm_cSW (As := [vR v1, vI (xs ((v4 + 1 : Int32)).toNatClampNeg), vI (xs ((v4 + 2 : Int32)).toNatClampNeg)]) (st := []) E lkw_L_149 (C_L_watch (xl X) X.1 v1 (xs ((v4 + 1 : Int32)).toNatClampNeg) (xs ((v4 + 2 : Int32)).toNatClampNeg) (ov b ρ μ) _ _ hc) rfl rfl (by rw [hR]; decide) (by rw [hR]; exact ⟨show kc + 8 ≤ 601024 by omega, show ks + 205 ≤ 7293034 by omega⟩) (Nat.le_of_ble_eq_true rfl) dL_law_1121 (fun m9 hm9 => ?_)
                                            rw [show m9 = ov b ρ m1121 from hm9.trans hov.symm]
                                            refine wm_pick (lv' := [(0, vR (some sb)), (1, vR v1), (2, vR (some b)), (3, vR v3), (4, vI v4)]) [0, 1, 2, 3, 4] rfl ?_
                                            refine wm_widen (k := kc + 8) (n := ks + 205) (by omega) (by omega) ?_
                                            exact lw_1124 E hS hR hLR hLF (kc + 8) (ks + 205) (by omega) (by omega) (LB_23 xs L v1 v3 b n) (ih (kc + 8) (ks + 205) (by omega) (by omega)) v4 x1121 (ρ) m1121 h
                                          · simp only [List.mem_cons, Prod.mk.injEq, List.not_mem_nil, or_false] at hcd
                                            obtain ⟨rfl, rfl⟩ := hcd
                                            refine wm_cSW (As := [vR v1, vI (xs ((v4 + 1 : Int32)).toNatClampNeg), vI (xs ((v4 + 2 : Int32)).toNatClampNeg)]) (st := []) E lkw_L_149 (X_L_watch_0 (xl X) hLF X.1 v1 (xs ((v4 + 1 : Int32)).toNatClampNeg) (xs ((v4 + 2 : Int32)).toNatClampNeg) (ov b ρ μ) mx hrc hc) rfl rfl (by rw [hR]; decide) (by rw [hR]; exact ⟨show kc + 8 ≤ 601024 by omega, show ks + 205 ≤ 7293034 by omega⟩) (Nat.le_of_ble_eq_true rfl) dL_law_1121 (fun m9 hm9 => ?_)
                                            obtain ⟨M9, hM9, rfl⟩ := hm9
                                            have h := h M9 hM9
                                            rw [ov_grow]
                                            refine wm_pick (lv' := [(0, vR (some sb)), (1, vR v1), (2, vR (some b)), (3, vR v3), (4, vI v4)]) [0, 1, 2, 3, 4] rfl ?_
                                            refine wm_widen (k := kc + 8) (n := ks + 205) (by omega) (by omega) ?_
                                            exact lw_1124 E hS hR hLR hLF (kc + 8) (ks + 205) (by omega) (by omega) (LB_23 xs L v1 v3 b n) (ih (kc + 8) (ks + 205) (by omega) (by omega)) v4 1 (ρ) ((m_grow μ M9)) h
                                        · have h := h.2 c17
                                          by_cases c18 : ((xs ((v4 : Int32)).toNatClampNeg) &&& 31) = 18
                                          · have h := h.1 c18
                                            refine wm_tabIn (tgt := 1156) E dL_law_40 (18) ((congrArg Int32.toInt c18).trans (by decide)) (by decide) (by decide) rfl (by decide) ?_
                                            refine wm_aload_n E dL_law_1156 rfl (j := 1) rfl ?_
                                            refine wm_aload_n E dL_law_1157 rfl (j := 0) rfl ?_
                                            refine wm_iload E dL_law_1158 (j := 4) rfl ?_
                                            refine wm_iconst (x := 1) E dL_law_1160 (by decide) ?_
                                            refine wm_iadd E dL_law_1161 ?_
                                            obtain ⟨hi1162, h⟩ := h
                                            refine wm_sld E hS hi1162 dL_law_1162 ?_
                                            refine wm_aload_n E dL_law_1163 rfl (j := 3) rfl ?_
                                            rcases h with ⟨x1164, m1164, hc, hov, h⟩ | ⟨ex, mx, k9, hc, hrc, hcd, h⟩
                                            · refine wm_cSW (As := [vR v1, vI (xs ((v4 + 1 : Int32)).toNatClampNeg), vR v3]) (st := []) E lkw_L_152 (C_L_news (xl X) X.1 v1 (xs ((v4 + 1 : Int32)).toNatClampNeg) v3 (ov b ρ μ) _ _ hc) rfl rfl (by rw [hR]; decide) (by rw [hR]; exact ⟨show kc + 1 ≤ 601024 by omega, show ks + 6 ≤ 7293034 by omega⟩) (Nat.le_of_ble_eq_true rfl) dL_law_1164 (fun m9 hm9 => ?_)
                                              rw [show m9 = ov b ρ m1164 from hm9.trans hov.symm]
                                              refine wm_pick (lv' := [(0, vR (some sb)), (1, vR v1), (2, vR (some b)), (3, vR v3), (4, vI v4)]) [0, 1, 2, 3, 4] rfl ?_
                                              refine wm_widen (k := kc + 8) (n := ks + 205) (by omega) (by omega) ?_
                                              exact lw_1167 E hS hR hLR hLF (kc + 8) (ks + 205) (by omega) (by omega) (LB_23 xs L v1 v3 b n) (ih (kc + 8) (ks + 205) (by omega) (by omega)) v4 x1164 (ρ) m1164 h
                                            · simp only [List.mem_cons, Prod.mk.injEq, List.not_mem_nil, or_false] at hcd
                                              obtain ⟨rfl, rfl⟩ := hcd
                                              refine wm_cSW (As := [vR v1, vI (xs ((v4 + 1 : Int32)).toNatClampNeg), vR v3]) (st := []) E lkw_L_152 (X_L_news_0 (xl X) hLF X.1 v1 (xs ((v4 + 1 : Int32)).toNatClampNeg) v3 (ov b ρ μ) mx hrc hc) rfl rfl (by rw [hR]; decide) (by rw [hR]; exact ⟨show kc + 1 ≤ 601024 by omega, show ks + 6 ≤ 7293034 by omega⟩) (Nat.le_of_ble_eq_true rfl) dL_law_1164 (fun m9 hm9 => ?_)
                                              obtain ⟨M9, hM9, rfl⟩ := hm9
                                              have h := h M9 hM9
                                              rw [ov_grow]
                                              refine wm_pick (lv' := [(0, vR (some sb)), (1, vR v1), (2, vR (some b)), (3, vR v3), (4, vI v4)]) [0, 1, 2, 3, 4] rfl ?_
                                              refine wm_widen (k := kc + 8) (n := ks + 205) (by omega) (by omega) ?_
                                              exact lw_1167 E hS hR hLR hLF (kc + 8) (ks + 205) (by omega) (by omega) (LB_23 xs L v1 v3 b n) (ih (kc + 8) (ks + 205) (by omega) (by omega)) v4 1 (ρ) ((m_grow μ M9)) h
                                          · have h := h.2 c18
                                            by_cases c19 : ((xs ((v4 : Int32)).toNatClampNeg) &&& 31) = 19
                                            · have h := h.1 c19
                                              refine wm_tabIn (tgt := 1212) E dL_law_40 (19) ((congrArg Int32.toInt c19).trans (by decide)) (by decide) (by decide) rfl (by decide) ?_
                                              refine wm_aload_n E dL_law_1212 rfl (j := 1) rfl ?_
                                              refine wm_aload_n E dL_law_1213 rfl (j := 0) rfl ?_
                                              refine wm_iload E dL_law_1214 (j := 4) rfl ?_
                                              refine wm_iconst (x := 1) E dL_law_1216 (by decide) ?_
                                              refine wm_iadd E dL_law_1217 ?_
                                              obtain ⟨hi1218, h⟩ := h
                                              refine wm_sld E hS hi1218 dL_law_1218 ?_
                                              refine wm_aload_n E dL_law_1219 rfl (j := 3) rfl ?_
                                              rcases h with ⟨x1220, m1220, hc, hov, h⟩ | ⟨ex, mx, k9, hc, hrc, hcd, h⟩
                                              · refine wm_cSW (As := [vR v1, vI (xs ((v4 + 1 : Int32)).toNatClampNeg), vR v3]) (st := []) E lkw_L_155 (C_L_told (xl X) X.1 v1 (xs ((v4 + 1 : Int32)).toNatClampNeg) v3 (ov b ρ μ) _ _ hc) rfl rfl (by rw [hR]; decide) (by rw [hR]; exact ⟨show kc + 1 ≤ 601024 by omega, show ks + 6 ≤ 7293034 by omega⟩) (Nat.le_of_ble_eq_true rfl) dL_law_1220 (fun m9 hm9 => ?_)
                                                rw [show m9 = ov b ρ m1220 from hm9.trans hov.symm]
                                                refine wm_pick (lv' := [(0, vR (some sb)), (1, vR v1), (2, vR (some b)), (3, vR v3), (4, vI v4)]) [0, 1, 2, 3, 4] rfl ?_
                                                refine wm_widen (k := kc + 8) (n := ks + 205) (by omega) (by omega) ?_
                                                exact lw_1223 E hS hR hLR hLF (kc + 8) (ks + 205) (by omega) (by omega) (LB_23 xs L v1 v3 b n) (ih (kc + 8) (ks + 205) (by omega) (by omega)) v4 x1220 (ρ) m1220 h
                                              · simp only [List.mem_cons, Prod.mk.injEq, List.not_mem_nil, or_false] at hcd
                                                obtain ⟨rfl, rfl⟩ := hcd
                                                refine wm_cSW (As := [vR v1, vI (xs ((v4 + 1 : Int32)).toNatClampNeg), vR v3]) (st := []) E lkw_L_155 (X_L_told_0 (xl X) hLF X.1 v1 (xs ((v4 + 1 : Int32)).toNatClampNeg) v3 (ov b ρ μ) mx hrc hc) rfl rfl (by rw [hR]; decide) (by rw [hR]; exact ⟨show kc + 1 ≤ 601024 by omega, show ks + 6 ≤ 7293034 by omega⟩) (Nat.le_of_ble_eq_true rfl) dL_law_1220 (fun m9 hm9 => ?_)
                                                obtain ⟨M9, hM9, rfl⟩ := hm9
                                                have h := h M9 hM9
                                                rw [ov_grow]
                                                refine wm_pick (lv' := [(0, vR (some sb)), (1, vR v1), (2, vR (some b)), (3, vR v3), (4, vI v4)]) [0, 1, 2, 3, 4] rfl ?_
                                                refine wm_widen (k := kc + 8) (n := ks + 205) (by omega) (by omega) ?_
                                                exact lw_1223 E hS hR hLR hLF (kc + 8) (ks + 205) (by omega) (by omega) (LB_23 xs L v1 v3 b n) (ih (kc + 8) (ks + 205) (by omega) (by omega)) v4 1 (ρ) ((m_grow μ M9)) h
                                            · have h := h.2 c19
                                              have e0 : (((xs ((v4 : Int32)).toNatClampNeg) &&& 31)).toInt ≠ 0 := fun q => c0 (Int32.toInt_inj.mp (q.trans (by decide)))
                                              have e1 : (((xs ((v4 : Int32)).toNatClampNeg) &&& 31)).toInt ≠ 1 := fun q => c1 (Int32.toInt_inj.mp (q.trans (by decide)))
                                              have e2 : (((xs ((v4 : Int32)).toNatClampNeg) &&& 31)).toInt ≠ 2 := fun q => c2 (Int32.toInt_inj.mp (q.trans (by decide)))
                                              have e3 : (((xs ((v4 : Int32)).toNatClampNeg) &&& 31)).toInt ≠ 3 := fun q => c3 (Int32.toInt_inj.mp (q.trans (by decide)))
                                              have e4 : (((xs ((v4 : Int32)).toNatClampNeg) &&& 31)).toInt ≠ 4 := fun q => c4 (Int32.toInt_inj.mp (q.trans (by decide)))
                                              have e5 : (((xs ((v4 : Int32)).toNatClampNeg) &&& 31)).toInt ≠ 5 := fun q => c5 (Int32.toInt_inj.mp (q.trans (by decide)))
                                              have e6 : (((xs ((v4 : Int32)).toNatClampNeg) &&& 31)).toInt ≠ 6 := fun q => c6 (Int32.toInt_inj.mp (q.trans (by decide)))
                                              have e7 : (((xs ((v4 : Int32)).toNatClampNeg) &&& 31)).toInt ≠ 7 := fun q => c7 (Int32.toInt_inj.mp (q.trans (by decide)))
                                              have e8 : (((xs ((v4 : Int32)).toNatClampNeg) &&& 31)).toInt ≠ 8 := fun q => c8 (Int32.toInt_inj.mp (q.trans (by decide)))
                                              have e9 : (((xs ((v4 : Int32)).toNatClampNeg) &&& 31)).toInt ≠ 9 := fun q => c9 (Int32.toInt_inj.mp (q.trans (by decide)))
                                              have e10 : (((xs ((v4 : Int32)).toNatClampNeg) &&& 31)).toInt ≠ 10 := fun q => c10 (Int32.toInt_inj.mp (q.trans (by decide)))
                                              have e11 : (((xs ((v4 : Int32)).toNatClampNeg) &&& 31)).toInt ≠ 11 := fun q => c11 (Int32.toInt_inj.mp (q.trans (by decide)))
                                              have e12 : (((xs ((v4 : Int32)).toNatClampNeg) &&& 31)).toInt ≠ 12 := fun q => c12 (Int32.toInt_inj.mp (q.trans (by decide)))
                                              have e13 : (((xs ((v4 : Int32)).toNatClampNeg) &&& 31)).toInt ≠ 13 := fun q => c13 (Int32.toInt_inj.mp (q.trans (by decide)))
                                              have e14 : (((xs ((v4 : Int32)).toNatClampNeg) &&& 31)).toInt ≠ 14 := fun q => c14 (Int32.toInt_inj.mp (q.trans (by decide)))
                                              have e15 : (((xs ((v4 : Int32)).toNatClampNeg) &&& 31)).toInt ≠ 15 := fun q => c15 (Int32.toInt_inj.mp (q.trans (by decide)))
                                              have e16 : (((xs ((v4 : Int32)).toNatClampNeg) &&& 31)).toInt ≠ 16 := fun q => c16 (Int32.toInt_inj.mp (q.trans (by decide)))
                                              have e17 : (((xs ((v4 : Int32)).toNatClampNeg) &&& 31)).toInt ≠ 17 := fun q => c17 (Int32.toInt_inj.mp (q.trans (by decide)))
                                              have e18 : (((xs ((v4 : Int32)).toNatClampNeg) &&& 31)).toInt ≠ 18 := fun q => c18 (Int32.toInt_inj.mp (q.trans (by decide)))
                                              have e19 : (((xs ((v4 : Int32)).toNatClampNeg) &&& 31)).toInt ≠ 19 := fun q => c19 (Int32.toInt_inj.mp (q.trans (by decide)))
                                              refine wm_tabOut (tgt := 1268) E dL_law_40 (by omega) (by decide) ?_
                                              refine wm_pick (lv' := [(0, vR (some sb)), (1, vR v1), (2, vR (some b)), (3, vR v3), (4, vI v4)]) [0, 1, 2, 3, 4] rfl ?_
                                              refine wm_widen (k := kc + 8) (n := ks + 205) (by omega) (by omega) ?_
                                              exact lw_1268 E hS hR hLR hLF (kc + 8) (ks + 205) (by omega) (by omega) (LB_23 xs L v1 v3 b n) (ih (kc + 8) (ks + 205) (by omega) (by omega)) v4 (ρ) μ h
