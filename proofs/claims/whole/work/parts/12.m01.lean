def B_M_isThere_25  (s0 : Int32) (μ : Mem) : Option (Int32 × Mem) := gd (¬ okZ s0 = true) (some (s0, μ))
set_option maxHeartbeats 4000000 in
set_option maxRecDepth 100000 in
theorem w_M_isThere_25 {X : CX} (E : EV X prog_13_method_14_code 3 "PlaceFinderModel" (some .boolean)) {μ0 μ' : Mem} {r : Int32} (hQ : RQ X 0 0 μ0 (some (vI r)) μ') (hR : xR X = { frames := 1, cells := 0, slots := 0, locals := 24 }) (hI : X.2.2.2.2.2.2.2.2.2.2.2.1.name = "isThere")  (s0 : Int32) (μ : Mem) (h : B_M_isThere_25  s0 μ = some (r, μ')) : WM X 3 25 [] [vI s0] 0 0 μ := by
  have h : (gd (¬ okZ s0 = true) (some (s0, μ))) = some (r, μ') := h
  obtain ⟨hz25, h⟩ := gdS h
  exact wm_zret (rt := .boolean) E hQ (rtI h) (rtM h) (okZN hz25) (by decide) (by decide) dM_isThere_25
def B_M_isThere_24   (μ : Mem) : Option (Int32 × Mem) := B_M_isThere_25 0 μ
set_option maxHeartbeats 4000000 in
set_option maxRecDepth 100000 in
theorem w_M_isThere_24 {X : CX} (E : EV X prog_13_method_14_code 3 "PlaceFinderModel" (some .boolean)) {μ0 μ' : Mem} {r : Int32} (hQ : RQ X 0 0 μ0 (some (vI r)) μ') (hR : xR X = { frames := 1, cells := 0, slots := 0, locals := 24 }) (hI : X.2.2.2.2.2.2.2.2.2.2.2.1.name = "isThere")   (μ : Mem) (h : B_M_isThere_24   μ = some (r, μ')) : WM X 3 24 [] [] 0 0 μ := by
  have h : (B_M_isThere_25 0 μ) = some (r, μ') := h
  refine wm_iconst (x := 0) E dM_isThere_24 (by decide) ?_
  refine wm_pick (lv' := []) [] rfl ?_
  exact w_M_isThere_25 E hQ hR hI 0 μ h
def S_M_isThere (v0 : Option Nat) (v1 : Int32) (v2 : Int32) (μ : Mem) : Option (Int32 × Mem) := b1 (rc μ v0 12) (fun _ => b2 (S_M_shapeOf v0 v1 v2 μ) (fun x3 m3 => if x3 = ((-1)) then B_M_isThere_24 m3 else b1 (gR m3 v0 12 3) (fun x12 => b1 (aI m3 x12 0 v1) (fun x16 => if x16 ≤ v2 then B_M_isThere_24 m3 else B_M_isThere_25 1 m3))))
set_option maxHeartbeats 4000000 in
set_option maxRecDepth 100000 in
theorem C_M_isThere (l : Launch) (G : GG) (v0 : Option Nat) (v1 : Int32) (v2 : Int32) (μ μ' : Mem) (r : Int32) (h : S_M_isThere v0 v1 v2 μ = some (r, μ')) : CT l G y_M_isThere prog_13_method_14_code 3 (some .boolean) 1 0 0 24 μ [vR v0, vI v1, vI v2] (some (vI r)) μ' := by
  refine wm_met (lv := [(0, vR v0), (1, vI v1), (2, vI v2)]) (by decide +kernel) (Nat.le_of_ble_eq_true rfl) rfl (fun X E hQ hR hI => ?_)
  have h : (b1 (rc μ v0 12) (fun _ => b2 (S_M_shapeOf v0 v1 v2 μ) (fun x3 m3 => if x3 = ((-1)) then B_M_isThere_24 m3 else b1 (gR m3 v0 12 3) (fun x12 => b1 (aI m3 x12 0 v1) (fun x16 => if x16 ≤ v2 then B_M_isThere_24 m3 else B_M_isThere_25 1 m3))))) = some (r, μ') := h
  refine wm_aload_n E dM_isThere_0 rfl (j := 0) rfl ?_
  refine wm_iload_n E dM_isThere_1 rfl (j := 1) rfl ?_
  refine wm_iload_n E dM_isThere_2 rfl (j := 2) rfl ?_
  obtain ⟨u3, hr3, h⟩ := b1S h
  obtain ⟨x3, m3, hc3, h⟩ := b2S h
  refine wm_cV (ci := 12) (As := [vI v1, vI v2]) (st := []) E lk_M_161 rfl im_M_shapeOf sl_M_shapeOf hr3 (C_M_shapeOf (xl X) X.1 v0 v1 v2 μ _ _ hc3) rfl rfl (by rw [hR]; decide) (by rw [hR]; decide) (Nat.le_of_ble_eq_true rfl) dM_isThere_3 ?_
  refine wm_iconst (x := -1) E dM_isThere_6 (by decide) ?_
  refine wm_icmp_eq (tgt := 24) E dM_isThere_7 (by decide) (fun c7 => ?_) (fun c7 => ?_)
  · have h := (if_pos c7).symm.trans h
    refine wm_pick (lv' := []) [] rfl ?_
    exact w_M_isThere_24 E hQ hR hI m3 h
  · have h := (if_neg c7).symm.trans h
    refine wm_iload_n E dM_isThere_10 rfl (j := 2) rfl ?_
    refine wm_aload_n E dM_isThere_11 rfl (j := 0) rfl ?_
    refine wm_gR E fd_M_13 h dM_isThere_12 (fun x12 h => ?_)
    refine wm_iload_n E dM_isThere_15 rfl (j := 1) rfl ?_
    refine wm_iald (t := 0) E rfl h dM_isThere_16 (fun x16 h => ?_)
    refine wm_icmp_ge (tgt := 24) E dM_isThere_17 (by decide) (fun c17 => ?_) (fun c17 => ?_)
    · have h := (if_pos c17).symm.trans h
      refine wm_pick (lv' := []) [] rfl ?_
      exact w_M_isThere_24 E hQ hR hI m3 h
    · have h := (if_neg c17).symm.trans h
      refine wm_iconst (x := 1) E dM_isThere_20 (by decide) ?_
      refine wm_goto (tgt := 25) E dM_isThere_21 (by decide) ?_
      refine wm_pick (lv' := []) [] rfl ?_
      exact w_M_isThere_25 E hQ hR hI 1 m3 h
def S_M_turn (v0 : Int32) (v1 : Int32) (v2 : Int32) (v3 : Int32) (v4 : Int32) (v5 : Int32) (μ : Mem) : Option (Int32 × Mem) := some (((v2 - v0) * (v5 - v1)) - ((v3 - v1) * (v4 - v0)), μ)
set_option maxHeartbeats 4000000 in
set_option maxRecDepth 100000 in
theorem C_M_turn (l : Launch) (G : GG) (v0 : Int32) (v1 : Int32) (v2 : Int32) (v3 : Int32) (v4 : Int32) (v5 : Int32) (μ μ' : Mem) (r : Int32) (h : S_M_turn v0 v1 v2 v3 v4 v5 μ = some (r, μ')) : CT l G y_M_turn prog_13_method_15_code 6 (some .int) 0 0 0 0 μ [vI v0, vI v1, vI v2, vI v3, vI v4, vI v5] (some (vI r)) μ' := by
  refine wm_met (lv := [(0, vI v0), (1, vI v1), (2, vI v2), (3, vI v3), (4, vI v4), (5, vI v5)]) (by decide +kernel) (Nat.le_of_ble_eq_true rfl) rfl (fun X E hQ hR hI => ?_)
  have h : (some (((v2 - v0) * (v5 - v1)) - ((v3 - v1) * (v4 - v0)), μ)) = some (r, μ') := h
  refine wm_iload_n E dM_turn_0 rfl (j := 2) rfl ?_
  refine wm_iload_n E dM_turn_1 rfl (j := 0) rfl ?_
  refine wm_isub E dM_turn_2 ?_
  refine wm_iload E dM_turn_3 (j := 5) rfl ?_
  refine wm_iload_n E dM_turn_5 rfl (j := 1) rfl ?_
  refine wm_isub E dM_turn_6 ?_
  refine wm_imul E dM_turn_7 ?_
  refine wm_iload_n E dM_turn_8 rfl (j := 3) rfl ?_
  refine wm_iload_n E dM_turn_9 rfl (j := 1) rfl ?_
  refine wm_isub E dM_turn_10 ?_
  refine wm_iload E dM_turn_11 (j := 4) rfl ?_
  refine wm_iload_n E dM_turn_13 rfl (j := 0) rfl ?_
  refine wm_isub E dM_turn_14 ?_
  refine wm_imul E dM_turn_15 ?_
  refine wm_isub E dM_turn_16 ?_
  exact wm_iret (rt := .int) E hQ (rtI h) (rtM h) (by decide) (by decide) dM_turn_17
def B_M_liesIn_241 (k6 : Option Nat → Int32 → Int32 → Int32 → Int32 → Int32 → Mem → Option (Int32 × Mem)) (v0 : Option Nat) (v1 : Int32) (v2 : Int32) (v3 : Int32) (v4 : Int32) (v5 : Int32) (μ : Mem) : Option (Int32 × Mem) := k6 v0 v1 v2 v3 v4 (v5 + 1) μ
set_option maxHeartbeats 4000000 in
set_option maxRecDepth 100000 in
theorem w_M_liesIn_241 {X : CX} (E : EV X prog_13_method_16_code 14 "PlaceFinderModel" (some .boolean)) {μ0 μ' : Mem} {r : Int32} (hQ : RQ X 0 0 μ0 (some (vI r)) μ') (hR : xR X = { frames := 1, cells := 0, slots := 0, locals := 25 }) (hI : X.2.2.2.2.2.2.2.2.2.2.2.1.name = "liesIn") (k6 : Option Nat → Int32 → Int32 → Int32 → Int32 → Int32 → Mem → Option (Int32 × Mem)) (hk6 : ∀ (v0 : Option Nat) (v1 : Int32) (v2 : Int32) (v3 : Int32) (v4 : Int32) (v5 : Int32) (μ : Mem), k6 v0 v1 v2 v3 v4 v5 μ = some (r, μ') → WM X 14 6 [(0, vR v0), (1, vI v1), (2, vI v2), (3, vI v3), (4, vI v4), (5, vI v5)] [] 0 0 μ) (v0 : Option Nat) (v1 : Int32) (v2 : Int32) (v3 : Int32) (v4 : Int32) (v5 : Int32) (μ : Mem) (h : B_M_liesIn_241 k6 v0 v1 v2 v3 v4 v5 μ = some (r, μ')) : WM X 14 241 [(0, vR v0), (1, vI v1), (2, vI v2), (3, vI v3), (4, vI v4), (5, vI v5)] [] 0 0 μ := by
  have h : (k6 v0 v1 v2 v3 v4 (v5 + 1) μ) = some (r, μ') := h
  refine wm_iinc (lv' := [(5, vI (v5 + 1)), (0, vR v0), (1, vI v1), (2, vI v2), (3, vI v3), (4, vI v4)]) (d := 1) E dM_liesIn_241 (by decide) (j := 5) rfl (by decide) rfl ?_
  refine wm_goto (tgt := 6) E dM_liesIn_244 (by decide) ?_
  refine wm_pick (lv' := [(0, vR v0), (1, vI v1), (2, vI v2), (3, vI v3), (4, vI v4), (5, vI (v5 + 1))]) [1, 2, 3, 4, 5, 0] rfl ?_
  exact hk6 v0 v1 v2 v3 v4 (v5 + 1) μ h
def B_M_liesIn_239 (k6 : Option Nat → Int32 → Int32 → Int32 → Int32 → Int32 → Mem → Option (Int32 × Mem)) (v0 : Option Nat) (v1 : Int32) (v2 : Int32) (v3 : Int32) (v5 : Int32) (s0 : Int32) (μ : Mem) : Option (Int32 × Mem) := B_M_liesIn_241 k6 v0 v1 v2 v3 s0 v5 μ
set_option maxHeartbeats 4000000 in
set_option maxRecDepth 100000 in
theorem w_M_liesIn_239 {X : CX} (E : EV X prog_13_method_16_code 14 "PlaceFinderModel" (some .boolean)) {μ0 μ' : Mem} {r : Int32} (hQ : RQ X 0 0 μ0 (some (vI r)) μ') (hR : xR X = { frames := 1, cells := 0, slots := 0, locals := 25 }) (hI : X.2.2.2.2.2.2.2.2.2.2.2.1.name = "liesIn") (k6 : Option Nat → Int32 → Int32 → Int32 → Int32 → Int32 → Mem → Option (Int32 × Mem)) (hk6 : ∀ (v0 : Option Nat) (v1 : Int32) (v2 : Int32) (v3 : Int32) (v4 : Int32) (v5 : Int32) (μ : Mem), k6 v0 v1 v2 v3 v4 v5 μ = some (r, μ') → WM X 14 6 [(0, vR v0), (1, vI v1), (2, vI v2), (3, vI v3), (4, vI v4), (5, vI v5)] [] 0 0 μ) (v0 : Option Nat) (v1 : Int32) (v2 : Int32) (v3 : Int32) (v5 : Int32) (s0 : Int32) (μ : Mem) (h : B_M_liesIn_239 k6 v0 v1 v2 v3 v5 s0 μ = some (r, μ')) : WM X 14 239 [(0, vR v0), (1, vI v1), (2, vI v2), (3, vI v3), (5, vI v5)] [vI s0] 0 0 μ := by
  have h : (B_M_liesIn_241 k6 v0 v1 v2 v3 s0 v5 μ) = some (r, μ') := h
  refine wm_istore (lv' := [(4, vI s0), (0, vR v0), (1, vI v1), (2, vI v2), (3, vI v3), (5, vI v5)]) E dM_liesIn_239 (by decide) rfl ?_
  refine wm_pick (lv' := [(0, vR v0), (1, vI v1), (2, vI v2), (3, vI v3), (4, vI s0), (5, vI v5)]) [1, 2, 3, 4, 0, 5] rfl ?_
  exact w_M_liesIn_241 E hQ hR hI k6 hk6 v0 v1 v2 v3 s0 v5 μ h
def B_M_liesIn_229 (k6 : Option Nat → Int32 → Int32 → Int32 → Int32 → Int32 → Mem → Option (Int32 × Mem)) (v0 : Option Nat) (v1 : Int32) (v2 : Int32) (v3 : Int32) (v4 : Int32) (v5 : Int32) (μ : Mem) : Option (Int32 × Mem) := if v4 = 0 then B_M_liesIn_239 k6 v0 v1 v2 v3 v5 1 μ else B_M_liesIn_239 k6 v0 v1 v2 v3 v5 0 μ
set_option maxHeartbeats 4000000 in
set_option maxRecDepth 100000 in
theorem w_M_liesIn_229 {X : CX} (E : EV X prog_13_method_16_code 14 "PlaceFinderModel" (some .boolean)) {μ0 μ' : Mem} {r : Int32} (hQ : RQ X 0 0 μ0 (some (vI r)) μ') (hR : xR X = { frames := 1, cells := 0, slots := 0, locals := 25 }) (hI : X.2.2.2.2.2.2.2.2.2.2.2.1.name = "liesIn") (k6 : Option Nat → Int32 → Int32 → Int32 → Int32 → Int32 → Mem → Option (Int32 × Mem)) (hk6 : ∀ (v0 : Option Nat) (v1 : Int32) (v2 : Int32) (v3 : Int32) (v4 : Int32) (v5 : Int32) (μ : Mem), k6 v0 v1 v2 v3 v4 v5 μ = some (r, μ') → WM X 14 6 [(0, vR v0), (1, vI v1), (2, vI v2), (3, vI v3), (4, vI v4), (5, vI v5)] [] 0 0 μ) (v0 : Option Nat) (v1 : Int32) (v2 : Int32) (v3 : Int32) (v4 : Int32) (v5 : Int32) (μ : Mem) (h : B_M_liesIn_229 k6 v0 v1 v2 v3 v4 v5 μ = some (r, μ')) : WM X 14 229 [(0, vR v0), (1, vI v1), (2, vI v2), (3, vI v3), (4, vI v4), (5, vI v5)] [] 0 0 μ := by
  have h : (if v4 = 0 then B_M_liesIn_239 k6 v0 v1 v2 v3 v5 1 μ else B_M_liesIn_239 k6 v0 v1 v2 v3 v5 0 μ) = some (r, μ') := h
  refine wm_iload E dM_liesIn_229 (j := 4) rfl ?_
  refine wm_if_ne (tgt := 238) E dM_liesIn_231 (by decide) (fun c231 => ?_) (fun c231 => ?_)
  · have h := (if_neg c231).symm.trans h
    refine wm_iconst (x := 0) E dM_liesIn_238 (by decide) ?_
    refine wm_pick (lv' := [(0, vR v0), (1, vI v1), (2, vI v2), (3, vI v3), (5, vI v5)]) [0, 1, 2, 3, 5] rfl ?_
    exact w_M_liesIn_239 E hQ hR hI k6 hk6 v0 v1 v2 v3 v5 0 μ h
  · have h := (if_pos c231).symm.trans h
    refine wm_iconst (x := 1) E dM_liesIn_234 (by decide) ?_
    refine wm_goto (tgt := 239) E dM_liesIn_235 (by decide) ?_
    refine wm_pick (lv' := [(0, vR v0), (1, vI v1), (2, vI v2), (3, vI v3), (5, vI v5)]) [0, 1, 2, 3, 5] rfl ?_
    exact w_M_liesIn_239 E hQ hR hI k6 hk6 v0 v1 v2 v3 v5 1 μ h
def B_M_liesIn_206 (k6 : Option Nat → Int32 → Int32 → Int32 → Int32 → Int32 → Mem → Option (Int32 × Mem)) (v0 : Option Nat) (v1 : Int32) (v2 : Int32) (v3 : Int32) (v4 : Int32) (v5 : Int32) (v9 : Int32) (v11 : Int32) (v12 : Int32) (s0 : Int32) (s1 : Int32) (μ : Mem) : Option (Int32 × Mem) := if s0 = s1 then B_M_liesIn_241 k6 v0 v1 v2 v3 v4 v5 μ else if v11 ≤ v9 then if 0 ≤ v12 then B_M_liesIn_241 k6 v0 v1 v2 v3 v4 v5 μ else B_M_liesIn_229 k6 v0 v1 v2 v3 v4 v5 μ else if v12 ≤ 0 then B_M_liesIn_241 k6 v0 v1 v2 v3 v4 v5 μ else B_M_liesIn_229 k6 v0 v1 v2 v3 v4 v5 μ
set_option maxHeartbeats 4000000 in
set_option maxRecDepth 100000 in
theorem w_M_liesIn_206 {X : CX} (E : EV X prog_13_method_16_code 14 "PlaceFinderModel" (some .boolean)) {μ0 μ' : Mem} {r : Int32} (hQ : RQ X 0 0 μ0 (some (vI r)) μ') (hR : xR X = { frames := 1, cells := 0, slots := 0, locals := 25 }) (hI : X.2.2.2.2.2.2.2.2.2.2.2.1.name = "liesIn") (k6 : Option Nat → Int32 → Int32 → Int32 → Int32 → Int32 → Mem → Option (Int32 × Mem)) (hk6 : ∀ (v0 : Option Nat) (v1 : Int32) (v2 : Int32) (v3 : Int32) (v4 : Int32) (v5 : Int32) (μ : Mem), k6 v0 v1 v2 v3 v4 v5 μ = some (r, μ') → WM X 14 6 [(0, vR v0), (1, vI v1), (2, vI v2), (3, vI v3), (4, vI v4), (5, vI v5)] [] 0 0 μ) (v0 : Option Nat) (v1 : Int32) (v2 : Int32) (v3 : Int32) (v4 : Int32) (v5 : Int32) (v9 : Int32) (v11 : Int32) (v12 : Int32) (s0 : Int32) (s1 : Int32) (μ : Mem) (h : B_M_liesIn_206 k6 v0 v1 v2 v3 v4 v5 v9 v11 v12 s0 s1 μ = some (r, μ')) : WM X 14 206 [(0, vR v0), (1, vI v1), (2, vI v2), (3, vI v3), (4, vI v4), (5, vI v5), (9, vI v9), (11, vI v11), (12, vI v12)] [vI s1, vI s0] 0 0 μ := by
  have h : (if s0 = s1 then B_M_liesIn_241 k6 v0 v1 v2 v3 v4 v5 μ else if v11 ≤ v9 then if 0 ≤ v12 then B_M_liesIn_241 k6 v0 v1 v2 v3 v4 v5 μ else B_M_liesIn_229 k6 v0 v1 v2 v3 v4 v5 μ else if v12 ≤ 0 then B_M_liesIn_241 k6 v0 v1 v2 v3 v4 v5 μ else B_M_liesIn_229 k6 v0 v1 v2 v3 v4 v5 μ) = some (r, μ') := h
  refine wm_icmp_eq (tgt := 241) E dM_liesIn_206 (by decide) (fun c206 => ?_) (fun c206 => ?_)
  · have h := (if_pos c206).symm.trans h
    refine wm_pick (lv' := [(0, vR v0), (1, vI v1), (2, vI v2), (3, vI v3), (4, vI v4), (5, vI v5)]) [0, 1, 2, 3, 4, 5] rfl ?_
    exact w_M_liesIn_241 E hQ hR hI k6 hk6 v0 v1 v2 v3 v4 v5 μ h
  · have h := (if_neg c206).symm.trans h
    refine wm_iload E dM_liesIn_209 (j := 7) rfl ?_
    refine wm_iload E dM_liesIn_211 (j := 6) rfl ?_
    refine wm_icmp_le (tgt := 224) E dM_liesIn_213 (by decide) (fun c213 => ?_) (fun c213 => ?_)
    · have h := (if_pos c213).symm.trans h
      refine wm_iload E dM_liesIn_224 (j := 8) rfl ?_
      refine wm_if_ge (tgt := 241) E dM_liesIn_226 (by decide) (fun c226 => ?_) (fun c226 => ?_)
      · have h := (if_pos c226).symm.trans h
        refine wm_pick (lv' := [(0, vR v0), (1, vI v1), (2, vI v2), (3, vI v3), (4, vI v4), (5, vI v5)]) [0, 1, 2, 3, 4, 5] rfl ?_
        exact w_M_liesIn_241 E hQ hR hI k6 hk6 v0 v1 v2 v3 v4 v5 μ h
      · have h := (if_neg c226).symm.trans h
        refine wm_pick (lv' := [(0, vR v0), (1, vI v1), (2, vI v2), (3, vI v3), (4, vI v4), (5, vI v5)]) [0, 1, 2, 3, 4, 5] rfl ?_
        exact w_M_liesIn_229 E hQ hR hI k6 hk6 v0 v1 v2 v3 v4 v5 μ h
    · have h := (if_neg c213).symm.trans h
      refine wm_iload E dM_liesIn_216 (j := 8) rfl ?_
      refine wm_if_le (tgt := 241) E dM_liesIn_218 (by decide) (fun c218 => ?_) (fun c218 => ?_)
      · have h := (if_pos c218).symm.trans h
        refine wm_pick (lv' := [(0, vR v0), (1, vI v1), (2, vI v2), (3, vI v3), (4, vI v4), (5, vI v5)]) [0, 1, 2, 3, 4, 5] rfl ?_
        exact w_M_liesIn_241 E hQ hR hI k6 hk6 v0 v1 v2 v3 v4 v5 μ h
      · have h := (if_neg c218).symm.trans h
        refine wm_goto (tgt := 229) E dM_liesIn_221 (by decide) ?_
        refine wm_pick (lv' := [(0, vR v0), (1, vI v1), (2, vI v2), (3, vI v3), (4, vI v4), (5, vI v5)]) [0, 1, 2, 3, 4, 5] rfl ?_
        exact w_M_liesIn_229 E hQ hR hI k6 hk6 v0 v1 v2 v3 v4 v5 μ h
def B_M_liesIn_195 (k6 : Option Nat → Int32 → Int32 → Int32 → Int32 → Int32 → Mem → Option (Int32 × Mem)) (v0 : Option Nat) (v1 : Int32) (v2 : Int32) (v3 : Int32) (v4 : Int32) (v5 : Int32) (v9 : Int32) (v11 : Int32) (v12 : Int32) (s0 : Int32) (μ : Mem) : Option (Int32 × Mem) := if v11 ≤ v3 then B_M_liesIn_206 k6 v0 v1 v2 v3 v4 v5 v9 v11 v12 s0 0 μ else B_M_liesIn_206 k6 v0 v1 v2 v3 v4 v5 v9 v11 v12 s0 1 μ
set_option maxHeartbeats 4000000 in
set_option maxRecDepth 100000 in
theorem w_M_liesIn_195 {X : CX} (E : EV X prog_13_method_16_code 14 "PlaceFinderModel" (some .boolean)) {μ0 μ' : Mem} {r : Int32} (hQ : RQ X 0 0 μ0 (some (vI r)) μ') (hR : xR X = { frames := 1, cells := 0, slots := 0, locals := 25 }) (hI : X.2.2.2.2.2.2.2.2.2.2.2.1.name = "liesIn") (k6 : Option Nat → Int32 → Int32 → Int32 → Int32 → Int32 → Mem → Option (Int32 × Mem)) (hk6 : ∀ (v0 : Option Nat) (v1 : Int32) (v2 : Int32) (v3 : Int32) (v4 : Int32) (v5 : Int32) (μ : Mem), k6 v0 v1 v2 v3 v4 v5 μ = some (r, μ') → WM X 14 6 [(0, vR v0), (1, vI v1), (2, vI v2), (3, vI v3), (4, vI v4), (5, vI v5)] [] 0 0 μ) (v0 : Option Nat) (v1 : Int32) (v2 : Int32) (v3 : Int32) (v4 : Int32) (v5 : Int32) (v9 : Int32) (v11 : Int32) (v12 : Int32) (s0 : Int32) (μ : Mem) (h : B_M_liesIn_195 k6 v0 v1 v2 v3 v4 v5 v9 v11 v12 s0 μ = some (r, μ')) : WM X 14 195 [(0, vR v0), (1, vI v1), (2, vI v2), (3, vI v3), (4, vI v4), (5, vI v5), (9, vI v9), (11, vI v11), (12, vI v12)] [vI s0] 0 0 μ := by
  have h : (if v11 ≤ v3 then B_M_liesIn_206 k6 v0 v1 v2 v3 v4 v5 v9 v11 v12 s0 0 μ else B_M_liesIn_206 k6 v0 v1 v2 v3 v4 v5 v9 v11 v12 s0 1 μ) = some (r, μ') := h
  refine wm_iload E dM_liesIn_195 (j := 7) rfl ?_
  refine wm_iload_n E dM_liesIn_197 rfl (j := 3) rfl ?_
  refine wm_icmp_le (tgt := 205) E dM_liesIn_198 (by decide) (fun c198 => ?_) (fun c198 => ?_)
  · have h := (if_pos c198).symm.trans h
    refine wm_iconst (x := 0) E dM_liesIn_205 (by decide) ?_
    refine wm_pick (lv' := [(0, vR v0), (1, vI v1), (2, vI v2), (3, vI v3), (4, vI v4), (5, vI v5), (9, vI v9), (11, vI v11), (12, vI v12)]) [0, 1, 2, 3, 4, 5, 6, 7, 8] rfl ?_
    exact w_M_liesIn_206 E hQ hR hI k6 hk6 v0 v1 v2 v3 v4 v5 v9 v11 v12 s0 0 μ h
  · have h := (if_neg c198).symm.trans h
    refine wm_iconst (x := 1) E dM_liesIn_201 (by decide) ?_
    refine wm_goto (tgt := 206) E dM_liesIn_202 (by decide) ?_
    refine wm_pick (lv' := [(0, vR v0), (1, vI v1), (2, vI v2), (3, vI v3), (4, vI v4), (5, vI v5), (9, vI v9), (11, vI v11), (12, vI v12)]) [0, 1, 2, 3, 4, 5, 6, 7, 8] rfl ?_
    exact w_M_liesIn_206 E hQ hR hI k6 hk6 v0 v1 v2 v3 v4 v5 v9 v11 v12 s0 1 μ h
def B_M_liesIn_184 (k6 : Option Nat → Int32 → Int32 → Int32 → Int32 → Int32 → Mem → Option (Int32 × Mem)) (v0 : Option Nat) (v1 : Int32) (v2 : Int32) (v3 : Int32) (v4 : Int32) (v5 : Int32) (v9 : Int32) (v11 : Int32) (v12 : Int32) (μ : Mem) : Option (Int32 × Mem) := if v9 ≤ v3 then B_M_liesIn_195 k6 v0 v1 v2 v3 v4 v5 v9 v11 v12 0 μ else B_M_liesIn_195 k6 v0 v1 v2 v3 v4 v5 v9 v11 v12 1 μ
set_option maxHeartbeats 4000000 in
set_option maxRecDepth 100000 in
theorem w_M_liesIn_184 {X : CX} (E : EV X prog_13_method_16_code 14 "PlaceFinderModel" (some .boolean)) {μ0 μ' : Mem} {r : Int32} (hQ : RQ X 0 0 μ0 (some (vI r)) μ') (hR : xR X = { frames := 1, cells := 0, slots := 0, locals := 25 }) (hI : X.2.2.2.2.2.2.2.2.2.2.2.1.name = "liesIn") (k6 : Option Nat → Int32 → Int32 → Int32 → Int32 → Int32 → Mem → Option (Int32 × Mem)) (hk6 : ∀ (v0 : Option Nat) (v1 : Int32) (v2 : Int32) (v3 : Int32) (v4 : Int32) (v5 : Int32) (μ : Mem), k6 v0 v1 v2 v3 v4 v5 μ = some (r, μ') → WM X 14 6 [(0, vR v0), (1, vI v1), (2, vI v2), (3, vI v3), (4, vI v4), (5, vI v5)] [] 0 0 μ) (v0 : Option Nat) (v1 : Int32) (v2 : Int32) (v3 : Int32) (v4 : Int32) (v5 : Int32) (v9 : Int32) (v11 : Int32) (v12 : Int32) (μ : Mem) (h : B_M_liesIn_184 k6 v0 v1 v2 v3 v4 v5 v9 v11 v12 μ = some (r, μ')) : WM X 14 184 [(0, vR v0), (1, vI v1), (2, vI v2), (3, vI v3), (4, vI v4), (5, vI v5), (9, vI v9), (11, vI v11), (12, vI v12)] [] 0 0 μ := by
  have h : (if v9 ≤ v3 then B_M_liesIn_195 k6 v0 v1 v2 v3 v4 v5 v9 v11 v12 0 μ else B_M_liesIn_195 k6 v0 v1 v2 v3 v4 v5 v9 v11 v12 1 μ) = some (r, μ') := h
  refine wm_iload E dM_liesIn_184 (j := 6) rfl ?_
  refine wm_iload_n E dM_liesIn_186 rfl (j := 3) rfl ?_
  refine wm_icmp_le (tgt := 194) E dM_liesIn_187 (by decide) (fun c187 => ?_) (fun c187 => ?_)
  · have h := (if_pos c187).symm.trans h
    refine wm_iconst (x := 0) E dM_liesIn_194 (by decide) ?_
    refine wm_pick (lv' := [(0, vR v0), (1, vI v1), (2, vI v2), (3, vI v3), (4, vI v4), (5, vI v5), (9, vI v9), (11, vI v11), (12, vI v12)]) [0, 1, 2, 3, 4, 5, 6, 7, 8] rfl ?_
    exact w_M_liesIn_195 E hQ hR hI k6 hk6 v0 v1 v2 v3 v4 v5 v9 v11 v12 0 μ h
  · have h := (if_neg c187).symm.trans h
    refine wm_iconst (x := 1) E dM_liesIn_190 (by decide) ?_
    refine wm_goto (tgt := 195) E dM_liesIn_191 (by decide) ?_
    refine wm_pick (lv' := [(0, vR v0), (1, vI v1), (2, vI v2), (3, vI v3), (4, vI v4), (5, vI v5), (9, vI v9), (11, vI v11), (12, vI v12)]) [0, 1, 2, 3, 4, 5, 6, 7, 8] rfl ?_
    exact w_M_liesIn_195 E hQ hR hI k6 hk6 v0 v1 v2 v3 v4 v5 v9 v11 v12 1 μ h
def B_M_liesIn_170 (k6 : Option Nat → Int32 → Int32 → Int32 → Int32 → Int32 → Mem → Option (Int32 × Mem)) (v0 : Option Nat) (v1 : Int32) (v2 : Int32) (v3 : Int32) (v4 : Int32) (v5 : Int32) (v9 : Int32) (v11 : Int32) (v12 : Int32) (s0 : Int32) (μ : Mem) : Option (Int32 × Mem) := if v12 = 0 then if s0 = 0 then B_M_liesIn_184 k6 v0 v1 v2 v3 v4 v5 v9 v11 v12 μ else gd (¬ okZ 1 = true) (some (1, μ)) else B_M_liesIn_184 k6 v0 v1 v2 v3 v4 v5 v9 v11 v12 μ
set_option maxHeartbeats 4000000 in
set_option maxRecDepth 100000 in
theorem w_M_liesIn_170 {X : CX} (E : EV X prog_13_method_16_code 14 "PlaceFinderModel" (some .boolean)) {μ0 μ' : Mem} {r : Int32} (hQ : RQ X 0 0 μ0 (some (vI r)) μ') (hR : xR X = { frames := 1, cells := 0, slots := 0, locals := 25 }) (hI : X.2.2.2.2.2.2.2.2.2.2.2.1.name = "liesIn") (k6 : Option Nat → Int32 → Int32 → Int32 → Int32 → Int32 → Mem → Option (Int32 × Mem)) (hk6 : ∀ (v0 : Option Nat) (v1 : Int32) (v2 : Int32) (v3 : Int32) (v4 : Int32) (v5 : Int32) (μ : Mem), k6 v0 v1 v2 v3 v4 v5 μ = some (r, μ') → WM X 14 6 [(0, vR v0), (1, vI v1), (2, vI v2), (3, vI v3), (4, vI v4), (5, vI v5)] [] 0 0 μ) (v0 : Option Nat) (v1 : Int32) (v2 : Int32) (v3 : Int32) (v4 : Int32) (v5 : Int32) (v9 : Int32) (v11 : Int32) (v12 : Int32) (s0 : Int32) (μ : Mem) (h : B_M_liesIn_170 k6 v0 v1 v2 v3 v4 v5 v9 v11 v12 s0 μ = some (r, μ')) : WM X 14 170 [(0, vR v0), (1, vI v1), (2, vI v2), (3, vI v3), (4, vI v4), (5, vI v5), (9, vI v9), (11, vI v11), (12, vI v12)] [vI s0] 0 0 μ := by
  have h : (if v12 = 0 then if s0 = 0 then B_M_liesIn_184 k6 v0 v1 v2 v3 v4 v5 v9 v11 v12 μ else gd (¬ okZ 1 = true) (some (1, μ)) else B_M_liesIn_184 k6 v0 v1 v2 v3 v4 v5 v9 v11 v12 μ) = some (r, μ') := h
  refine wm_istore (lv' := [(13, vI s0), (0, vR v0), (1, vI v1), (2, vI v2), (3, vI v3), (4, vI v4), (5, vI v5), (9, vI v9), (11, vI v11), (12, vI v12)]) E dM_liesIn_170 (by decide) rfl ?_
  refine wm_iload E dM_liesIn_172 (j := 9) rfl ?_
  refine wm_if_ne (tgt := 184) E dM_liesIn_174 (by decide) (fun c174 => ?_) (fun c174 => ?_)
  · have h := (if_neg c174).symm.trans h
    refine wm_pick (lv' := [(0, vR v0), (1, vI v1), (2, vI v2), (3, vI v3), (4, vI v4), (5, vI v5), (9, vI v9), (11, vI v11), (12, vI v12)]) [1, 2, 3, 4, 5, 6, 7, 8, 9] rfl ?_
    exact w_M_liesIn_184 E hQ hR hI k6 hk6 v0 v1 v2 v3 v4 v5 v9 v11 v12 μ h
  · have h := (if_pos c174).symm.trans h
    refine wm_iload E dM_liesIn_177 (j := 0) rfl ?_
    refine wm_if_eq (tgt := 184) E dM_liesIn_179 (by decide) (fun c179 => ?_) (fun c179 => ?_)
    · have h := (if_pos c179).symm.trans h
      refine wm_pick (lv' := [(0, vR v0), (1, vI v1), (2, vI v2), (3, vI v3), (4, vI v4), (5, vI v5), (9, vI v9), (11, vI v11), (12, vI v12)]) [1, 2, 3, 4, 5, 6, 7, 8, 9] rfl ?_
      exact w_M_liesIn_184 E hQ hR hI k6 hk6 v0 v1 v2 v3 v4 v5 v9 v11 v12 μ h
    · have h := (if_neg c179).symm.trans h
      refine wm_iconst (x := 1) E dM_liesIn_182 (by decide) ?_
      obtain ⟨hz183, h⟩ := gdS h
      exact wm_zret (rt := .boolean) E hQ (rtI h) (rtM h) (okZN hz183) (by decide) (by decide) dM_liesIn_183
def B_M_liesIn_169 (k6 : Option Nat → Int32 → Int32 → Int32 → Int32 → Int32 → Mem → Option (Int32 × Mem)) (v0 : Option Nat) (v1 : Int32) (v2 : Int32) (v3 : Int32) (v4 : Int32) (v5 : Int32) (v9 : Int32) (v11 : Int32) (v12 : Int32) (μ : Mem) : Option (Int32 × Mem) := B_M_liesIn_170 k6 v0 v1 v2 v3 v4 v5 v9 v11 v12 0 μ
set_option maxHeartbeats 4000000 in
set_option maxRecDepth 100000 in
theorem w_M_liesIn_169 {X : CX} (E : EV X prog_13_method_16_code 14 "PlaceFinderModel" (some .boolean)) {μ0 μ' : Mem} {r : Int32} (hQ : RQ X 0 0 μ0 (some (vI r)) μ') (hR : xR X = { frames := 1, cells := 0, slots := 0, locals := 25 }) (hI : X.2.2.2.2.2.2.2.2.2.2.2.1.name = "liesIn") (k6 : Option Nat → Int32 → Int32 → Int32 → Int32 → Int32 → Mem → Option (Int32 × Mem)) (hk6 : ∀ (v0 : Option Nat) (v1 : Int32) (v2 : Int32) (v3 : Int32) (v4 : Int32) (v5 : Int32) (μ : Mem), k6 v0 v1 v2 v3 v4 v5 μ = some (r, μ') → WM X 14 6 [(0, vR v0), (1, vI v1), (2, vI v2), (3, vI v3), (4, vI v4), (5, vI v5)] [] 0 0 μ) (v0 : Option Nat) (v1 : Int32) (v2 : Int32) (v3 : Int32) (v4 : Int32) (v5 : Int32) (v9 : Int32) (v11 : Int32) (v12 : Int32) (μ : Mem) (h : B_M_liesIn_169 k6 v0 v1 v2 v3 v4 v5 v9 v11 v12 μ = some (r, μ')) : WM X 14 169 [(0, vR v0), (1, vI v1), (2, vI v2), (3, vI v3), (4, vI v4), (5, vI v5), (9, vI v9), (11, vI v11), (12, vI v12)] [] 0 0 μ := by
  have h : (B_M_liesIn_170 k6 v0 v1 v2 v3 v4 v5 v9 v11 v12 0 μ) = some (r, μ') := h
  refine wm_iconst (x := 0) E dM_liesIn_169 (by decide) ?_
  refine wm_pick (lv' := [(0, vR v0), (1, vI v1), (2, vI v2), (3, vI v3), (4, vI v4), (5, vI v5), (9, vI v9), (11, vI v11), (12, vI v12)]) [0, 1, 2, 3, 4, 5, 6, 7, 8] rfl ?_
  exact w_M_liesIn_170 E hQ hR hI k6 hk6 v0 v1 v2 v3 v4 v5 v9 v11 v12 0 μ h
def B_M_liesIn_159 (k6 : Option Nat → Int32 → Int32 → Int32 → Int32 → Int32 → Mem → Option (Int32 × Mem)) (v0 : Option Nat) (v1 : Int32) (v2 : Int32) (v3 : Int32) (v4 : Int32) (v5 : Int32) (v9 : Int32) (v11 : Int32) (v12 : Int32) (s0 : Int32) (s1 : Int32) (s2 : Int32) (μ : Mem) : Option (Int32 × Mem) := b2 (S_M_in s0 s1 s2 μ) (fun x159 m159 => if x159 = 0 then B_M_liesIn_169 k6 v0 v1 v2 v3 v4 v5 v9 v11 v12 m159 else B_M_liesIn_170 k6 v0 v1 v2 v3 v4 v5 v9 v11 v12 1 m159)
set_option maxHeartbeats 4000000 in
set_option maxRecDepth 100000 in
theorem w_M_liesIn_159 {X : CX} (E : EV X prog_13_method_16_code 14 "PlaceFinderModel" (some .boolean)) {μ0 μ' : Mem} {r : Int32} (hQ : RQ X 0 0 μ0 (some (vI r)) μ') (hR : xR X = { frames := 1, cells := 0, slots := 0, locals := 25 }) (hI : X.2.2.2.2.2.2.2.2.2.2.2.1.name = "liesIn") (k6 : Option Nat → Int32 → Int32 → Int32 → Int32 → Int32 → Mem → Option (Int32 × Mem)) (hk6 : ∀ (v0 : Option Nat) (v1 : Int32) (v2 : Int32) (v3 : Int32) (v4 : Int32) (v5 : Int32) (μ : Mem), k6 v0 v1 v2 v3 v4 v5 μ = some (r, μ') → WM X 14 6 [(0, vR v0), (1, vI v1), (2, vI v2), (3, vI v3), (4, vI v4), (5, vI v5)] [] 0 0 μ) (v0 : Option Nat) (v1 : Int32) (v2 : Int32) (v3 : Int32) (v4 : Int32) (v5 : Int32) (v9 : Int32) (v11 : Int32) (v12 : Int32) (s0 : Int32) (s1 : Int32) (s2 : Int32) (μ : Mem) (h : B_M_liesIn_159 k6 v0 v1 v2 v3 v4 v5 v9 v11 v12 s0 s1 s2 μ = some (r, μ')) : WM X 14 159 [(0, vR v0), (1, vI v1), (2, vI v2), (3, vI v3), (4, vI v4), (5, vI v5), (9, vI v9), (11, vI v11), (12, vI v12)] [vI s2, vI s1, vI s0] 0 0 μ := by
  have h : (b2 (S_M_in s0 s1 s2 μ) (fun x159 m159 => if x159 = 0 then B_M_liesIn_169 k6 v0 v1 v2 v3 v4 v5 v9 v11 v12 m159 else B_M_liesIn_170 k6 v0 v1 v2 v3 v4 v5 v9 v11 v12 1 m159)) = some (r, μ') := h
  obtain ⟨x159, m159, hc159, h⟩ := b2S h
  refine wm_cS (As := [vI s0, vI s1, vI s2]) (st := []) E lk_M_139 sc_M_in (C_M_in (xl X) X.1 s0 s1 s2 μ _ _ hc159) rfl rfl (by rw [hR]; decide) (by rw [hR]; decide) (Nat.le_of_ble_eq_true rfl) dM_liesIn_159 ?_
  refine wm_if_eq (tgt := 169) E dM_liesIn_162 (by decide) (fun c162 => ?_) (fun c162 => ?_)
  · have h := (if_pos c162).symm.trans h
    refine wm_pick (lv' := [(0, vR v0), (1, vI v1), (2, vI v2), (3, vI v3), (4, vI v4), (5, vI v5), (9, vI v9), (11, vI v11), (12, vI v12)]) [0, 1, 2, 3, 4, 5, 6, 7, 8] rfl ?_
    exact w_M_liesIn_169 E hQ hR hI k6 hk6 v0 v1 v2 v3 v4 v5 v9 v11 v12 m159 h
  · have h := (if_neg c162).symm.trans h
    refine wm_iconst (x := 1) E dM_liesIn_165 (by decide) ?_
    refine wm_goto (tgt := 170) E dM_liesIn_166 (by decide) ?_
    refine wm_pick (lv' := [(0, vR v0), (1, vI v1), (2, vI v2), (3, vI v3), (4, vI v4), (5, vI v5), (9, vI v9), (11, vI v11), (12, vI v12)]) [0, 1, 2, 3, 4, 5, 6, 7, 8] rfl ?_
    exact w_M_liesIn_170 E hQ hR hI k6 hk6 v0 v1 v2 v3 v4 v5 v9 v11 v12 1 m159 h
def B_M_liesIn_145 (k6 : Option Nat → Int32 → Int32 → Int32 → Int32 → Int32 → Mem → Option (Int32 × Mem)) (v0 : Option Nat) (v1 : Int32) (v2 : Int32) (v3 : Int32) (v4 : Int32) (v5 : Int32) (v9 : Int32) (v11 : Int32) (v12 : Int32) (s0 : Int32) (s1 : Int32) (μ : Mem) : Option (Int32 × Mem) := if v11 ≤ v9 then B_M_liesIn_159 k6 v0 v1 v2 v3 v4 v5 v9 v11 v12 s0 s1 v9 μ else B_M_liesIn_159 k6 v0 v1 v2 v3 v4 v5 v9 v11 v12 s0 s1 v11 μ
set_option maxHeartbeats 4000000 in
set_option maxRecDepth 100000 in
theorem w_M_liesIn_145 {X : CX} (E : EV X prog_13_method_16_code 14 "PlaceFinderModel" (some .boolean)) {μ0 μ' : Mem} {r : Int32} (hQ : RQ X 0 0 μ0 (some (vI r)) μ') (hR : xR X = { frames := 1, cells := 0, slots := 0, locals := 25 }) (hI : X.2.2.2.2.2.2.2.2.2.2.2.1.name = "liesIn") (k6 : Option Nat → Int32 → Int32 → Int32 → Int32 → Int32 → Mem → Option (Int32 × Mem)) (hk6 : ∀ (v0 : Option Nat) (v1 : Int32) (v2 : Int32) (v3 : Int32) (v4 : Int32) (v5 : Int32) (μ : Mem), k6 v0 v1 v2 v3 v4 v5 μ = some (r, μ') → WM X 14 6 [(0, vR v0), (1, vI v1), (2, vI v2), (3, vI v3), (4, vI v4), (5, vI v5)] [] 0 0 μ) (v0 : Option Nat) (v1 : Int32) (v2 : Int32) (v3 : Int32) (v4 : Int32) (v5 : Int32) (v9 : Int32) (v11 : Int32) (v12 : Int32) (s0 : Int32) (s1 : Int32) (μ : Mem) (h : B_M_liesIn_145 k6 v0 v1 v2 v3 v4 v5 v9 v11 v12 s0 s1 μ = some (r, μ')) : WM X 14 145 [(0, vR v0), (1, vI v1), (2, vI v2), (3, vI v3), (4, vI v4), (5, vI v5), (9, vI v9), (11, vI v11), (12, vI v12)] [vI s1, vI s0] 0 0 μ := by
  have h : (if v11 ≤ v9 then B_M_liesIn_159 k6 v0 v1 v2 v3 v4 v5 v9 v11 v12 s0 s1 v9 μ else B_M_liesIn_159 k6 v0 v1 v2 v3 v4 v5 v9 v11 v12 s0 s1 v11 μ) = some (r, μ') := h
  refine wm_iload E dM_liesIn_145 (j := 6) rfl ?_
  refine wm_iload E dM_liesIn_147 (j := 7) rfl ?_
  refine wm_icmp_ge (tgt := 157) E dM_liesIn_149 (by decide) (fun c149 => ?_) (fun c149 => ?_)
  · have h := (if_pos c149).symm.trans h
    refine wm_iload E dM_liesIn_157 (j := 6) rfl ?_
    refine wm_pick (lv' := [(0, vR v0), (1, vI v1), (2, vI v2), (3, vI v3), (4, vI v4), (5, vI v5), (9, vI v9), (11, vI v11), (12, vI v12)]) [0, 1, 2, 3, 4, 5, 6, 7, 8] rfl ?_
    exact w_M_liesIn_159 E hQ hR hI k6 hk6 v0 v1 v2 v3 v4 v5 v9 v11 v12 s0 s1 v9 μ h
  · have h := (if_neg c149).symm.trans h
    refine wm_iload E dM_liesIn_152 (j := 7) rfl ?_
    refine wm_goto (tgt := 159) E dM_liesIn_154 (by decide) ?_
    refine wm_pick (lv' := [(0, vR v0), (1, vI v1), (2, vI v2), (3, vI v3), (4, vI v4), (5, vI v5), (9, vI v9), (11, vI v11), (12, vI v12)]) [0, 1, 2, 3, 4, 5, 6, 7, 8] rfl ?_
    exact w_M_liesIn_159 E hQ hR hI k6 hk6 v0 v1 v2 v3 v4 v5 v9 v11 v12 s0 s1 v11 μ h
def B_M_liesIn_124 (k6 : Option Nat → Int32 → Int32 → Int32 → Int32 → Int32 → Mem → Option (Int32 × Mem)) (v0 : Option Nat) (v1 : Int32) (v2 : Int32) (v3 : Int32) (v4 : Int32) (v5 : Int32) (v9 : Int32) (v11 : Int32) (v12 : Int32) (s0 : Int32) (s1 : Int32) (s2 : Int32) (μ : Mem) : Option (Int32 × Mem) := b2 (S_M_in s0 s1 s2 μ) (fun x124 m124 => if x124 = 0 then B_M_liesIn_169 k6 v0 v1 v2 v3 v4 v5 v9 v11 v12 m124 else if v11 ≤ v9 then B_M_liesIn_145 k6 v0 v1 v2 v3 v4 v5 v9 v11 v12 v3 v11 m124 else B_M_liesIn_145 k6 v0 v1 v2 v3 v4 v5 v9 v11 v12 v3 v9 m124)
set_option maxHeartbeats 4000000 in
set_option maxRecDepth 100000 in
theorem w_M_liesIn_124 {X : CX} (E : EV X prog_13_method_16_code 14 "PlaceFinderModel" (some .boolean)) {μ0 μ' : Mem} {r : Int32} (hQ : RQ X 0 0 μ0 (some (vI r)) μ') (hR : xR X = { frames := 1, cells := 0, slots := 0, locals := 25 }) (hI : X.2.2.2.2.2.2.2.2.2.2.2.1.name = "liesIn") (k6 : Option Nat → Int32 → Int32 → Int32 → Int32 → Int32 → Mem → Option (Int32 × Mem)) (hk6 : ∀ (v0 : Option Nat) (v1 : Int32) (v2 : Int32) (v3 : Int32) (v4 : Int32) (v5 : Int32) (μ : Mem), k6 v0 v1 v2 v3 v4 v5 μ = some (r, μ') → WM X 14 6 [(0, vR v0), (1, vI v1), (2, vI v2), (3, vI v3), (4, vI v4), (5, vI v5)] [] 0 0 μ) (v0 : Option Nat) (v1 : Int32) (v2 : Int32) (v3 : Int32) (v4 : Int32) (v5 : Int32) (v9 : Int32) (v11 : Int32) (v12 : Int32) (s0 : Int32) (s1 : Int32) (s2 : Int32) (μ : Mem) (h : B_M_liesIn_124 k6 v0 v1 v2 v3 v4 v5 v9 v11 v12 s0 s1 s2 μ = some (r, μ')) : WM X 14 124 [(0, vR v0), (1, vI v1), (2, vI v2), (3, vI v3), (4, vI v4), (5, vI v5), (9, vI v9), (11, vI v11), (12, vI v12)] [vI s2, vI s1, vI s0] 0 0 μ := by
  have h : (b2 (S_M_in s0 s1 s2 μ) (fun x124 m124 => if x124 = 0 then B_M_liesIn_169 k6 v0 v1 v2 v3 v4 v5 v9 v11 v12 m124 else if v11 ≤ v9 then B_M_liesIn_145 k6 v0 v1 v2 v3 v4 v5 v9 v11 v12 v3 v11 m124 else B_M_liesIn_145 k6 v0 v1 v2 v3 v4 v5 v9 v11 v12 v3 v9 m124)) = some (r, μ') := h
  obtain ⟨x124, m124, hc124, h⟩ := b2S h
  refine wm_cS (As := [vI s0, vI s1, vI s2]) (st := []) E lk_M_139 sc_M_in (C_M_in (xl X) X.1 s0 s1 s2 μ _ _ hc124) rfl rfl (by rw [hR]; decide) (by rw [hR]; decide) (Nat.le_of_ble_eq_true rfl) dM_liesIn_124 ?_
  refine wm_if_eq (tgt := 169) E dM_liesIn_127 (by decide) (fun c127 => ?_) (fun c127 => ?_)
  · have h := (if_pos c127).symm.trans h
    refine wm_pick (lv' := [(0, vR v0), (1, vI v1), (2, vI v2), (3, vI v3), (4, vI v4), (5, vI v5), (9, vI v9), (11, vI v11), (12, vI v12)]) [0, 1, 2, 3, 4, 5, 6, 7, 8] rfl ?_
    exact w_M_liesIn_169 E hQ hR hI k6 hk6 v0 v1 v2 v3 v4 v5 v9 v11 v12 m124 h
  · have h := (if_neg c127).symm.trans h
    refine wm_iload_n E dM_liesIn_130 rfl (j := 3) rfl ?_
    refine wm_iload E dM_liesIn_131 (j := 6) rfl ?_
    refine wm_iload E dM_liesIn_133 (j := 7) rfl ?_
    refine wm_icmp_ge (tgt := 143) E dM_liesIn_135 (by decide) (fun c135 => ?_) (fun c135 => ?_)
    · have h := (if_pos c135).symm.trans h
      refine wm_iload E dM_liesIn_143 (j := 7) rfl ?_
      refine wm_pick (lv' := [(0, vR v0), (1, vI v1), (2, vI v2), (3, vI v3), (4, vI v4), (5, vI v5), (9, vI v9), (11, vI v11), (12, vI v12)]) [0, 1, 2, 3, 4, 5, 6, 7, 8] rfl ?_
      exact w_M_liesIn_145 E hQ hR hI k6 hk6 v0 v1 v2 v3 v4 v5 v9 v11 v12 v3 v11 m124 h
    · have h := (if_neg c135).symm.trans h
      refine wm_iload E dM_liesIn_138 (j := 6) rfl ?_
      refine wm_goto (tgt := 145) E dM_liesIn_140 (by decide) ?_
      refine wm_pick (lv' := [(0, vR v0), (1, vI v1), (2, vI v2), (3, vI v3), (4, vI v4), (5, vI v5), (9, vI v9), (11, vI v11), (12, vI v12)]) [0, 1, 2, 3, 4, 5, 6, 7, 8] rfl ?_
      exact w_M_liesIn_145 E hQ hR hI k6 hk6 v0 v1 v2 v3 v4 v5 v9 v11 v12 v3 v9 m124 h
def B_M_liesIn_110 (k6 : Option Nat → Int32 → Int32 → Int32 → Int32 → Int32 → Mem → Option (Int32 × Mem)) (v0 : Option Nat) (v1 : Int32) (v2 : Int32) (v3 : Int32) (v4 : Int32) (v5 : Int32) (v8 : Int32) (v9 : Int32) (v10 : Int32) (v11 : Int32) (v12 : Int32) (s0 : Int32) (s1 : Int32) (μ : Mem) : Option (Int32 × Mem) := if v10 ≤ v8 then B_M_liesIn_124 k6 v0 v1 v2 v3 v4 v5 v9 v11 v12 s0 s1 v8 μ else B_M_liesIn_124 k6 v0 v1 v2 v3 v4 v5 v9 v11 v12 s0 s1 v10 μ
set_option maxHeartbeats 4000000 in
set_option maxRecDepth 100000 in
theorem w_M_liesIn_110 {X : CX} (E : EV X prog_13_method_16_code 14 "PlaceFinderModel" (some .boolean)) {μ0 μ' : Mem} {r : Int32} (hQ : RQ X 0 0 μ0 (some (vI r)) μ') (hR : xR X = { frames := 1, cells := 0, slots := 0, locals := 25 }) (hI : X.2.2.2.2.2.2.2.2.2.2.2.1.name = "liesIn") (k6 : Option Nat → Int32 → Int32 → Int32 → Int32 → Int32 → Mem → Option (Int32 × Mem)) (hk6 : ∀ (v0 : Option Nat) (v1 : Int32) (v2 : Int32) (v3 : Int32) (v4 : Int32) (v5 : Int32) (μ : Mem), k6 v0 v1 v2 v3 v4 v5 μ = some (r, μ') → WM X 14 6 [(0, vR v0), (1, vI v1), (2, vI v2), (3, vI v3), (4, vI v4), (5, vI v5)] [] 0 0 μ) (v0 : Option Nat) (v1 : Int32) (v2 : Int32) (v3 : Int32) (v4 : Int32) (v5 : Int32) (v8 : Int32) (v9 : Int32) (v10 : Int32) (v11 : Int32) (v12 : Int32) (s0 : Int32) (s1 : Int32) (μ : Mem) (h : B_M_liesIn_110 k6 v0 v1 v2 v3 v4 v5 v8 v9 v10 v11 v12 s0 s1 μ = some (r, μ')) : WM X 14 110 [(0, vR v0), (1, vI v1), (2, vI v2), (3, vI v3), (4, vI v4), (5, vI v5), (8, vI v8), (9, vI v9), (10, vI v10), (11, vI v11), (12, vI v12)] [vI s1, vI s0] 0 0 μ := by
  have h : (if v10 ≤ v8 then B_M_liesIn_124 k6 v0 v1 v2 v3 v4 v5 v9 v11 v12 s0 s1 v8 μ else B_M_liesIn_124 k6 v0 v1 v2 v3 v4 v5 v9 v11 v12 s0 s1 v10 μ) = some (r, μ') := h
  refine wm_iload E dM_liesIn_110 (j := 6) rfl ?_
  refine wm_iload E dM_liesIn_112 (j := 8) rfl ?_
  refine wm_icmp_ge (tgt := 122) E dM_liesIn_114 (by decide) (fun c114 => ?_) (fun c114 => ?_)
  · have h := (if_pos c114).symm.trans h
    refine wm_iload E dM_liesIn_122 (j := 6) rfl ?_
    refine wm_pick (lv' := [(0, vR v0), (1, vI v1), (2, vI v2), (3, vI v3), (4, vI v4), (5, vI v5), (9, vI v9), (11, vI v11), (12, vI v12)]) [0, 1, 2, 3, 4, 5, 7, 9, 10] rfl ?_
    exact w_M_liesIn_124 E hQ hR hI k6 hk6 v0 v1 v2 v3 v4 v5 v9 v11 v12 s0 s1 v8 μ h
  · have h := (if_neg c114).symm.trans h
    refine wm_iload E dM_liesIn_117 (j := 8) rfl ?_
    refine wm_goto (tgt := 124) E dM_liesIn_119 (by decide) ?_
    refine wm_pick (lv' := [(0, vR v0), (1, vI v1), (2, vI v2), (3, vI v3), (4, vI v4), (5, vI v5), (9, vI v9), (11, vI v11), (12, vI v12)]) [0, 1, 2, 3, 4, 5, 7, 9, 10] rfl ?_
    exact w_M_liesIn_124 E hQ hR hI k6 hk6 v0 v1 v2 v3 v4 v5 v9 v11 v12 s0 s1 v10 μ h
def B_M_liesIn_6  : Nat → Option Nat → Int32 → Int32 → Int32 → Int32 → Int32 → Mem → Option (Int32 × Mem)
  | 0, _, _, _, _, _, _, _ => none
  | n + 1, v0, v1, v2, v3, v4, v5, μ => b1 (gR μ v0 12 6) (fun x9 => b1 (aI μ x9 0 v1) (fun x13 => if x13 ≤ v5 then gd (¬ okZ v4 = true) (some (v4, μ)) else b0 ((8 * v1) + v5) (fun x24 => b1 (gR μ v0 12 6) (fun x35 => b1 (aI μ x35 0 v1) (fun x39 => gd (x39 = 0) (b0 ((8 * v1) + ((v5 + 1) - (v5 + 1) / x39 * x39)) (fun x42 => b1 (gR μ v0 12 7) (fun x45 => b1 (aI μ x45 0 x24) (fun x50 => b1 (gR μ v0 12 8) (fun x54 => b1 (aI μ x54 0 x24) (fun x59 => b1 (gR μ v0 12 7) (fun x63 => b1 (aI μ x63 0 x42) (fun x68 => b1 (gR μ v0 12 8) (fun x72 => b1 (aI μ x72 0 x42) (fun x77 => b2 (S_M_turn x50 x59 x68 x77 v2 v3 μ) (fun x90 m90 => if x68 ≤ x50 then B_M_liesIn_110 (fun v0 v1 v2 v3 v4 v5 μ => B_M_liesIn_6 n v0 v1 v2 v3 v4 v5 μ) v0 v1 v2 v3 v4 v5 x50 x59 x68 x77 x90 v2 x68 m90 else B_M_liesIn_110 (fun v0 v1 v2 v3 v4 v5 μ => B_M_liesIn_6 n v0 v1 v2 v3 v4 v5 μ) v0 v1 v2 v3 v4 v5 x50 x59 x68 x77 x90 v2 x50 m90))))))))))))))))
set_option maxHeartbeats 4000000 in
set_option maxRecDepth 100000 in
theorem w_M_liesIn_6 {X : CX} (E : EV X prog_13_method_16_code 14 "PlaceFinderModel" (some .boolean)) {μ0 μ' : Mem} {r : Int32} (hQ : RQ X 0 0 μ0 (some (vI r)) μ') (hR : xR X = { frames := 1, cells := 0, slots := 0, locals := 25 }) (hI : X.2.2.2.2.2.2.2.2.2.2.2.1.name = "liesIn")  (n : Nat) : ∀ (v0 : Option Nat) (v1 : Int32) (v2 : Int32) (v3 : Int32) (v4 : Int32) (v5 : Int32) (μ : Mem) (h : B_M_liesIn_6  n v0 v1 v2 v3 v4 v5 μ = some (r, μ')), WM X 14 6 [(0, vR v0), (1, vI v1), (2, vI v2), (3, vI v3), (4, vI v4), (5, vI v5)] [] 0 0 μ := by
  induction n with
  | zero => intro v0 v1 v2 v3 v4 v5 μ h; cases h
  | succ n ih =>
    intro v0 v1 v2 v3 v4 v5 μ h
    have h : (b1 (gR μ v0 12 6) (fun x9 => b1 (aI μ x9 0 v1) (fun x13 => if x13 ≤ v5 then gd (¬ okZ v4 = true) (some (v4, μ)) else b0 ((8 * v1) + v5) (fun x24 => b1 (gR μ v0 12 6) (fun x35 => b1 (aI μ x35 0 v1) (fun x39 => gd (x39 = 0) (b0 ((8 * v1) + ((v5 + 1) - (v5 + 1) / x39 * x39)) (fun x42 => b1 (gR μ v0 12 7) (fun x45 => b1 (aI μ x45 0 x24) (fun x50 => b1 (gR μ v0 12 8) (fun x54 => b1 (aI μ x54 0 x24) (fun x59 => b1 (gR μ v0 12 7) (fun x63 => b1 (aI μ x63 0 x42) (fun x68 => b1 (gR μ v0 12 8) (fun x72 => b1 (aI μ x72 0 x42) (fun x77 => b2 (S_M_turn x50 x59 x68 x77 v2 v3 μ) (fun x90 m90 => if x68 ≤ x50 then B_M_liesIn_110 (fun v0 v1 v2 v3 v4 v5 μ => B_M_liesIn_6 n v0 v1 v2 v3 v4 v5 μ) v0 v1 v2 v3 v4 v5 x50 x59 x68 x77 x90 v2 x68 m90 else B_M_liesIn_110 (fun v0 v1 v2 v3 v4 v5 μ => B_M_liesIn_6 n v0 v1 v2 v3 v4 v5 μ) v0 v1 v2 v3 v4 v5 x50 x59 x68 x77 x90 v2 x50 m90))))))))))))))))) = some (r, μ') := h
    refine wm_iload E dM_liesIn_6 (j := 5) rfl ?_
    refine wm_aload_n E dM_liesIn_8 rfl (j := 0) rfl ?_
    refine wm_gR E fd_M_22 h dM_liesIn_9 (fun x9 h => ?_)
    refine wm_iload_n E dM_liesIn_12 rfl (j := 1) rfl ?_
    refine wm_iald (t := 0) E rfl h dM_liesIn_13 (fun x13 h => ?_)
    refine wm_icmp_ge (tgt := 247) E dM_liesIn_14 (by decide) (fun c14 => ?_) (fun c14 => ?_)
    · have h := (if_pos c14).symm.trans h
      refine wm_iload E dM_liesIn_247 (j := 4) rfl ?_
      obtain ⟨hz249, h⟩ := gdS h
      exact wm_zret (rt := .boolean) E hQ (rtI h) (rtM h) (okZN hz249) (by decide) (by decide) dM_liesIn_249
    · have h := (if_neg c14).symm.trans h
      refine wm_bipush (x := 8) E dM_liesIn_17 (by decide) ?_
      refine wm_iload_n E dM_liesIn_19 rfl (j := 1) rfl ?_
      refine wm_imul E dM_liesIn_20 ?_
      refine wm_iload E dM_liesIn_21 (j := 5) rfl ?_
      refine wm_iadd E dM_liesIn_23 ?_
      refine wm_letI h (fun x24 h => ?_)
      refine wm_istore (lv' := [(6, vI x24), (0, vR v0), (1, vI v1), (2, vI v2), (3, vI v3), (4, vI v4), (5, vI v5)]) E dM_liesIn_24 (by decide) rfl ?_
      refine wm_bipush (x := 8) E dM_liesIn_26 (by decide) ?_
      refine wm_iload_n E dM_liesIn_28 rfl (j := 2) rfl ?_
      refine wm_imul E dM_liesIn_29 ?_
      refine wm_iload E dM_liesIn_30 (j := 6) rfl ?_
      refine wm_iconst (x := 1) E dM_liesIn_32 (by decide) ?_
      refine wm_iadd E dM_liesIn_33 ?_
      refine wm_aload_n E dM_liesIn_34 rfl (j := 1) rfl ?_
      refine wm_gR E fd_M_22 h dM_liesIn_35 (fun x35 h => ?_)
      refine wm_iload_n E dM_liesIn_38 rfl (j := 2) rfl ?_
      refine wm_iald (t := 0) E rfl h dM_liesIn_39 (fun x39 h => ?_)
      obtain ⟨hz40, h⟩ := gdS h
      refine wm_irem E dM_liesIn_40 hz40 ?_
      refine wm_iadd E dM_liesIn_41 ?_
      refine wm_letI h (fun x42 h => ?_)
      refine wm_istore (lv' := [(7, vI x42), (6, vI x24), (0, vR v0), (1, vI v1), (2, vI v2), (3, vI v3), (4, vI v4), (5, vI v5)]) E dM_liesIn_42 (by decide) rfl ?_
      refine wm_aload_n E dM_liesIn_44 rfl (j := 2) rfl ?_
      refine wm_gR E fd_M_25 h dM_liesIn_45 (fun x45 h => ?_)
      refine wm_iload E dM_liesIn_48 (j := 1) rfl ?_
      refine wm_iald (t := 0) E rfl h dM_liesIn_50 (fun x50 h => ?_)
      refine wm_istore (lv' := [(8, vI x50), (7, vI x42), (6, vI x24), (0, vR v0), (1, vI v1), (2, vI v2), (3, vI v3), (4, vI v4), (5, vI v5)]) E dM_liesIn_51 (by decide) rfl ?_
      refine wm_aload_n E dM_liesIn_53 rfl (j := 3) rfl ?_
      refine wm_gR E fd_M_28 h dM_liesIn_54 (fun x54 h => ?_)
      refine wm_iload E dM_liesIn_57 (j := 2) rfl ?_
      refine wm_iald (t := 0) E rfl h dM_liesIn_59 (fun x59 h => ?_)
      refine wm_istore (lv' := [(9, vI x59), (8, vI x50), (7, vI x42), (6, vI x24), (0, vR v0), (1, vI v1), (2, vI v2), (3, vI v3), (4, vI v4), (5, vI v5)]) E dM_liesIn_60 (by decide) rfl ?_
      refine wm_aload_n E dM_liesIn_62 rfl (j := 4) rfl ?_
      refine wm_gR E fd_M_25 h dM_liesIn_63 (fun x63 h => ?_)
      refine wm_iload E dM_liesIn_66 (j := 2) rfl ?_
      refine wm_iald (t := 0) E rfl h dM_liesIn_68 (fun x68 h => ?_)
      refine wm_istore (lv' := [(10, vI x68), (9, vI x59), (8, vI x50), (7, vI x42), (6, vI x24), (0, vR v0), (1, vI v1), (2, vI v2), (3, vI v3), (4, vI v4), (5, vI v5)]) E dM_liesIn_69 (by decide) rfl ?_
      refine wm_aload_n E dM_liesIn_71 rfl (j := 5) rfl ?_
      refine wm_gR E fd_M_28 h dM_liesIn_72 (fun x72 h => ?_)
      refine wm_iload E dM_liesIn_75 (j := 3) rfl ?_
      refine wm_iald (t := 0) E rfl h dM_liesIn_77 (fun x77 h => ?_)
      refine wm_istore (lv' := [(11, vI x77), (10, vI x68), (9, vI x59), (8, vI x50), (7, vI x42), (6, vI x24), (0, vR v0), (1, vI v1), (2, vI v2), (3, vI v3), (4, vI v4), (5, vI v5)]) E dM_liesIn_78 (by decide) rfl ?_
      refine wm_iload E dM_liesIn_80 (j := 3) rfl ?_
      refine wm_iload E dM_liesIn_82 (j := 2) rfl ?_
      refine wm_iload E dM_liesIn_84 (j := 1) rfl ?_
      refine wm_iload E dM_liesIn_86 (j := 0) rfl ?_
      refine wm_iload_n E dM_liesIn_88 rfl (j := 8) rfl ?_
      refine wm_iload_n E dM_liesIn_89 rfl (j := 9) rfl ?_
      obtain ⟨x90, m90, hc90, h⟩ := b2S h
      refine wm_cS (As := [vI x50, vI x59, vI x68, vI x77, vI v2, vI v3]) (st := []) E lk_M_165 sc_M_turn (C_M_turn (xl X) X.1 x50 x59 x68 x77 v2 v3 μ _ _ hc90) rfl rfl (by rw [hR]; decide) (by rw [hR]; decide) (Nat.le_of_ble_eq_true rfl) dM_liesIn_90 ?_
      refine wm_istore (lv' := [(12, vI x90), (11, vI x77), (10, vI x68), (9, vI x59), (8, vI x50), (7, vI x42), (6, vI x24), (0, vR v0), (1, vI v1), (2, vI v2), (3, vI v3), (4, vI v4), (5, vI v5)]) E dM_liesIn_93 (by decide) rfl ?_
      refine wm_iload_n E dM_liesIn_95 rfl (j := 9) rfl ?_
      refine wm_iload E dM_liesIn_96 (j := 4) rfl ?_
      refine wm_iload E dM_liesIn_98 (j := 2) rfl ?_
      refine wm_icmp_ge (tgt := 108) E dM_liesIn_100 (by decide) (fun c100 => ?_) (fun c100 => ?_)
      · have h := (if_pos c100).symm.trans h
        refine wm_iload E dM_liesIn_108 (j := 2) rfl ?_
        refine wm_pick (lv' := [(0, vR v0), (1, vI v1), (2, vI v2), (3, vI v3), (4, vI v4), (5, vI v5), (8, vI x50), (9, vI x59), (10, vI x68), (11, vI x77), (12, vI x90)]) [7, 8, 9, 10, 11, 12, 4, 3, 2, 1, 0] rfl ?_
        exact w_M_liesIn_110 E hQ hR hI (fun v0 v1 v2 v3 v4 v5 μ => B_M_liesIn_6 n v0 v1 v2 v3 v4 v5 μ) ih v0 v1 v2 v3 v4 v5 x50 x59 x68 x77 x90 v2 x68 m90 h
      · have h := (if_neg c100).symm.trans h
        refine wm_iload E dM_liesIn_103 (j := 4) rfl ?_
        refine wm_goto (tgt := 110) E dM_liesIn_105 (by decide) ?_
        refine wm_pick (lv' := [(0, vR v0), (1, vI v1), (2, vI v2), (3, vI v3), (4, vI v4), (5, vI v5), (8, vI x50), (9, vI x59), (10, vI x68), (11, vI x77), (12, vI x90)]) [7, 8, 9, 10, 11, 12, 4, 3, 2, 1, 0] rfl ?_
        exact w_M_liesIn_110 E hQ hR hI (fun v0 v1 v2 v3 v4 v5 μ => B_M_liesIn_6 n v0 v1 v2 v3 v4 v5 μ) ih v0 v1 v2 v3 v4 v5 x50 x59 x68 x77 x90 v2 x50 m90 h
def S_M_liesIn (v0 : Option Nat) (v1 : Int32) (v2 : Int32) (v3 : Int32) (μ : Mem) : Option (Int32 × Mem) := B_M_liesIn_6 fu v0 v1 v2 v3 0 0 μ
set_option maxHeartbeats 4000000 in
set_option maxRecDepth 100000 in
theorem C_M_liesIn (l : Launch) (G : GG) (v0 : Option Nat) (v1 : Int32) (v2 : Int32) (v3 : Int32) (μ μ' : Mem) (r : Int32) (h : S_M_liesIn v0 v1 v2 v3 μ = some (r, μ')) : CT l G y_M_liesIn prog_13_method_16_code 14 (some .boolean) 1 0 0 25 μ [vR v0, vI v1, vI v2, vI v3] (some (vI r)) μ' := by
  refine wm_met (lv := [(0, vR v0), (1, vI v1), (2, vI v2), (3, vI v3)]) (by decide +kernel) (Nat.le_of_ble_eq_true rfl) rfl (fun X E hQ hR hI => ?_)
  have h : (B_M_liesIn_6 fu v0 v1 v2 v3 0 0 μ) = some (r, μ') := h
  refine wm_iconst (x := 0) E dM_liesIn_0 (by decide) ?_
  refine wm_istore (lv' := [(4, vI 0), (0, vR v0), (1, vI v1), (2, vI v2), (3, vI v3)]) E dM_liesIn_1 (by decide) rfl ?_
  refine wm_iconst (x := 0) E dM_liesIn_3 (by decide) ?_
  refine wm_istore (lv' := [(5, vI 0), (4, vI 0), (0, vR v0), (1, vI v1), (2, vI v2), (3, vI v3)]) E dM_liesIn_4 (by decide) rfl ?_
  refine wm_pick (lv' := [(0, vR v0), (1, vI v1), (2, vI v2), (3, vI v3), (4, vI 0), (5, vI 0)]) [2, 3, 4, 5, 1, 0] rfl ?_
  exact w_M_liesIn_6 E hQ hR hI fu v0 v1 v2 v3 0 0 μ h
def B_M_holds_88  (s0 : Int32) (μ : Mem) : Option (Int32 × Mem) := some (s0, μ)
set_option maxHeartbeats 4000000 in
set_option maxRecDepth 100000 in
theorem w_M_holds_88 {X : CX} (E : EV X prog_13_method_17_code 6 "PlaceFinderModel" (some .int)) {μ0 μ' : Mem} {r : Int32} (hQ : RQ X 0 0 μ0 (some (vI r)) μ') (hR : xR X = { frames := 2, cells := 0, slots := 0, locals := 58 }) (hI : X.2.2.2.2.2.2.2.2.2.2.2.1.name = "holds")  (s0 : Int32) (μ : Mem) (h : B_M_holds_88  s0 μ = some (r, μ')) : WM X 6 88 [] [vI s0] 0 0 μ := by
  have h : (some (s0, μ)) = some (r, μ') := h
  exact wm_iret (rt := .int) E hQ (rtI h) (rtM h) (by decide) (by decide) dM_holds_88
def B_M_holds_68   (μ : Mem) : Option (Int32 × Mem) := B_M_holds_88 ((-1)) μ
set_option maxHeartbeats 4000000 in
set_option maxRecDepth 100000 in
theorem w_M_holds_68 {X : CX} (E : EV X prog_13_method_17_code 6 "PlaceFinderModel" (some .int)) {μ0 μ' : Mem} {r : Int32} (hQ : RQ X 0 0 μ0 (some (vI r)) μ') (hR : xR X = { frames := 2, cells := 0, slots := 0, locals := 58 }) (hI : X.2.2.2.2.2.2.2.2.2.2.2.1.name = "holds")   (μ : Mem) (h : B_M_holds_68   μ = some (r, μ')) : WM X 6 68 [] [] 0 0 μ := by
  have h : (B_M_holds_88 ((-1)) μ) = some (r, μ') := h
  refine wm_iconst (x := -1) E dM_holds_68 (by decide) ?_
  refine wm_goto (tgt := 88) E dM_holds_69 (by decide) ?_
  refine wm_pick (lv' := []) [] rfl ?_
  exact w_M_holds_88 E hQ hR hI ((-1)) μ h
def B_M_holds_30  (v0 : Option Nat) (v1 : Int32) (v2 : Int32) (v3 : Int32) (v4 : Int32) (s0 : Option Nat) (s1 : Int32) (μ : Mem) : Option (Int32 × Mem) := b1 (pV μ s0 12 0 (vI s1)) (fun m30 => b1 (gI m30 v0 12 0) (fun x34 => if x34 ≤ 0 then b1 (rc m30 v0 12) (fun _ => b2 (S_M_shapeOf v0 v1 v4 m30) (fun x46 m46 => if x46 = ((-1)) then B_M_holds_68 m46 else b1 (gR m46 v0 12 6) (fun x58 => b1 (aI m46 x58 0 x46) (fun x63 => if x63 = 1 then B_M_holds_68 m46 else b1 (rc m46 v0 12) (fun _ => b2 (S_M_liesIn v0 x46 v2 v3 m46) (fun x77 m77 => if x77 = 0 then B_M_holds_88 0 m77 else B_M_holds_88 1 m77)))))) else some (0, m30)))
set_option maxHeartbeats 4000000 in
set_option maxRecDepth 100000 in
theorem w_M_holds_30 {X : CX} (E : EV X prog_13_method_17_code 6 "PlaceFinderModel" (some .int)) {μ0 μ' : Mem} {r : Int32} (hQ : RQ X 0 0 μ0 (some (vI r)) μ') (hR : xR X = { frames := 2, cells := 0, slots := 0, locals := 58 }) (hI : X.2.2.2.2.2.2.2.2.2.2.2.1.name = "holds")  (v0 : Option Nat) (v1 : Int32) (v2 : Int32) (v3 : Int32) (v4 : Int32) (s0 : Option Nat) (s1 : Int32) (μ : Mem) (h : B_M_holds_30  v0 v1 v2 v3 v4 s0 s1 μ = some (r, μ')) : WM X 6 30 [(0, vR v0), (1, vI v1), (2, vI v2), (3, vI v3), (4, vI v4)] [vI s1, vR s0] 0 0 μ := by
  have h : (b1 (pV μ s0 12 0 (vI s1)) (fun m30 => b1 (gI m30 v0 12 0) (fun x34 => if x34 ≤ 0 then b1 (rc m30 v0 12) (fun _ => b2 (S_M_shapeOf v0 v1 v4 m30) (fun x46 m46 => if x46 = ((-1)) then B_M_holds_68 m46 else b1 (gR m46 v0 12 6) (fun x58 => b1 (aI m46 x58 0 x46) (fun x63 => if x63 = 1 then B_M_holds_68 m46 else b1 (rc m46 v0 12) (fun _ => b2 (S_M_liesIn v0 x46 v2 v3 m46) (fun x77 m77 => if x77 = 0 then B_M_holds_88 0 m77 else B_M_holds_88 1 m77)))))) else some (0, m30)))) = some (r, μ') := h
  refine wm_pI E fp_M_132 (fun q => by cases q) h dM_holds_30 (fun m30 h => ?_)
  refine wm_aload_n E dM_holds_33 rfl (j := 0) rfl ?_
  refine wm_gI E fd_M_132 h dM_holds_34 (fun x34 h => ?_)
  refine wm_if_le (tgt := 42) E dM_holds_37 (by decide) (fun c37 => ?_) (fun c37 => ?_)
  · have h := (if_pos c37).symm.trans h
    refine wm_aload_n E dM_holds_42 rfl (j := 0) rfl ?_
    refine wm_iload_n E dM_holds_43 rfl (j := 1) rfl ?_
    refine wm_iload E dM_holds_44 (j := 4) rfl ?_
    obtain ⟨u46, hr46, h⟩ := b1S h
    obtain ⟨x46, m46, hc46, h⟩ := b2S h
    refine wm_cV (ci := 12) (As := [vI v1, vI v4]) (st := []) E lk_M_161 rfl im_M_shapeOf sl_M_shapeOf hr46 (C_M_shapeOf (xl X) X.1 v0 v1 v4 m30 _ _ hc46) rfl rfl (by rw [hR]; decide) (by rw [hR]; decide) (Nat.le_of_ble_eq_true rfl) dM_holds_46 ?_
    refine wm_istore (lv' := [(5, vI x46), (0, vR v0), (1, vI v1), (2, vI v2), (3, vI v3), (4, vI v4)]) E dM_holds_49 (by decide) rfl ?_
    refine wm_iload E dM_holds_51 (j := 0) rfl ?_
    refine wm_iconst (x := -1) E dM_holds_53 (by decide) ?_
    refine wm_icmp_eq (tgt := 68) E dM_holds_54 (by decide) (fun c54 => ?_) (fun c54 => ?_)
    · have h := (if_pos c54).symm.trans h
      refine wm_pick (lv' := []) [] rfl ?_
      exact w_M_holds_68 E hQ hR hI m46 h
    · have h := (if_neg c54).symm.trans h
      refine wm_aload_n E dM_holds_57 rfl (j := 1) rfl ?_
      refine wm_gR E fd_M_22 h dM_holds_58 (fun x58 h => ?_)
      refine wm_iload E dM_holds_61 (j := 0) rfl ?_
      refine wm_iald (t := 0) E rfl h dM_holds_63 (fun x63 h => ?_)
      refine wm_iconst (x := 1) E dM_holds_64 (by decide) ?_
      refine wm_icmp_ne (tgt := 72) E dM_holds_65 (by decide) (fun c65 => ?_) (fun c65 => ?_)
      · have h := (if_neg c65).symm.trans h
        refine wm_aload_n E dM_holds_72 rfl (j := 1) rfl ?_
        refine wm_iload E dM_holds_73 (j := 0) rfl ?_
        refine wm_iload_n E dM_holds_75 rfl (j := 3) rfl ?_
        refine wm_iload_n E dM_holds_76 rfl (j := 4) rfl ?_
        obtain ⟨u77, hr77, h⟩ := b1S h
        obtain ⟨x77, m77, hc77, h⟩ := b2S h
        refine wm_cV (ci := 12) (As := [vI x46, vI v2, vI v3]) (st := []) E lk_M_169 rfl im_M_liesIn sl_M_liesIn hr77 (C_M_liesIn (xl X) X.1 v0 x46 v2 v3 m46 _ _ hc77) rfl rfl (by rw [hR]; decide) (by rw [hR]; decide) (Nat.le_of_ble_eq_true rfl) dM_holds_77 ?_
        refine wm_if_eq (tgt := 87) E dM_holds_80 (by decide) (fun c80 => ?_) (fun c80 => ?_)
        · have h := (if_pos c80).symm.trans h
          refine wm_iconst (x := 0) E dM_holds_87 (by decide) ?_
          refine wm_pick (lv' := []) [] rfl ?_
          exact w_M_holds_88 E hQ hR hI 0 m77 h
        · have h := (if_neg c80).symm.trans h
          refine wm_iconst (x := 1) E dM_holds_83 (by decide) ?_
          refine wm_goto (tgt := 88) E dM_holds_84 (by decide) ?_
          refine wm_pick (lv' := []) [] rfl ?_
          exact w_M_holds_88 E hQ hR hI 1 m77 h
      · have h := (if_pos c65).symm.trans h
        refine wm_pick (lv' := []) [] rfl ?_
        exact w_M_holds_68 E hQ hR hI m46 h
  · have h := (if_neg c37).symm.trans h
    refine wm_iconst (x := 0) E dM_holds_40 (by decide) ?_
    exact wm_iret (rt := .int) E hQ (rtI h) (rtM h) (by decide) (by decide) dM_holds_41
def B_M_holds_25  (v0 : Option Nat) (v1 : Int32) (v2 : Int32) (v3 : Int32) (v4 : Int32) (s0 : Option Nat) (μ : Mem) : Option (Int32 × Mem) := B_M_holds_30 v0 v1 v2 v3 v4 s0 1 μ
set_option maxHeartbeats 4000000 in
set_option maxRecDepth 100000 in
theorem w_M_holds_25 {X : CX} (E : EV X prog_13_method_17_code 6 "PlaceFinderModel" (some .int)) {μ0 μ' : Mem} {r : Int32} (hQ : RQ X 0 0 μ0 (some (vI r)) μ') (hR : xR X = { frames := 2, cells := 0, slots := 0, locals := 58 }) (hI : X.2.2.2.2.2.2.2.2.2.2.2.1.name = "holds")  (v0 : Option Nat) (v1 : Int32) (v2 : Int32) (v3 : Int32) (v4 : Int32) (s0 : Option Nat) (μ : Mem) (h : B_M_holds_25  v0 v1 v2 v3 v4 s0 μ = some (r, μ')) : WM X 6 25 [(0, vR v0), (1, vI v1), (2, vI v2), (3, vI v3), (4, vI v4)] [vR s0] 0 0 μ := by
  have h : (B_M_holds_30 v0 v1 v2 v3 v4 s0 1 μ) = some (r, μ') := h
  refine wm_iconst (x := 1) E dM_holds_25 (by decide) ?_
  refine wm_goto (tgt := 30) E dM_holds_26 (by decide) ?_
  refine wm_pick (lv' := [(0, vR v0), (1, vI v1), (2, vI v2), (3, vI v3), (4, vI v4)]) [0, 1, 2, 3, 4] rfl ?_
  exact w_M_holds_30 E hQ hR hI v0 v1 v2 v3 v4 s0 1 μ h
def S_M_holds (v0 : Option Nat) (v1 : Int32) (v2 : Int32) (v3 : Int32) (v4 : Int32) (μ : Mem) : Option (Int32 × Mem) := b1 (rc μ v0 12) (fun _ => b2 (S_M_isPlace v0 v1 μ) (fun x3 m3 => if x3 = 0 then B_M_holds_25 v0 v1 v2 v3 v4 v0 m3 else b2 (S_M_isAt v2 v3 m3) (fun x11 m11 => if x11 = 0 then B_M_holds_25 v0 v1 v2 v3 v4 v0 m11 else b2 (S_M_isDay v4 m11) (fun x19 m19 => if x19 = 0 then B_M_holds_25 v0 v1 v2 v3 v4 v0 m19 else B_M_holds_30 v0 v1 v2 v3 v4 v0 0 m19))))
set_option maxHeartbeats 4000000 in
set_option maxRecDepth 100000 in
theorem C_M_holds (l : Launch) (G : GG) (v0 : Option Nat) (v1 : Int32) (v2 : Int32) (v3 : Int32) (v4 : Int32) (μ μ' : Mem) (r : Int32) (h : S_M_holds v0 v1 v2 v3 v4 μ = some (r, μ')) : CT l G y_M_holds prog_13_method_17_code 6 (some .int) 2 0 0 58 μ [vR v0, vI v1, vI v2, vI v3, vI v4] (some (vI r)) μ' := by
  refine wm_met (lv := [(0, vR v0), (1, vI v1), (2, vI v2), (3, vI v3), (4, vI v4)]) (by decide +kernel) (Nat.le_of_ble_eq_true rfl) rfl (fun X E hQ hR hI => ?_)
  have h : (b1 (rc μ v0 12) (fun _ => b2 (S_M_isPlace v0 v1 μ) (fun x3 m3 => if x3 = 0 then B_M_holds_25 v0 v1 v2 v3 v4 v0 m3 else b2 (S_M_isAt v2 v3 m3) (fun x11 m11 => if x11 = 0 then B_M_holds_25 v0 v1 v2 v3 v4 v0 m11 else b2 (S_M_isDay v4 m11) (fun x19 m19 => if x19 = 0 then B_M_holds_25 v0 v1 v2 v3 v4 v0 m19 else B_M_holds_30 v0 v1 v2 v3 v4 v0 0 m19))))) = some (r, μ') := h
  refine wm_aload_n E dM_holds_0 rfl (j := 0) rfl ?_
  refine wm_aload_n E dM_holds_1 rfl (j := 0) rfl ?_
  refine wm_iload_n E dM_holds_2 rfl (j := 1) rfl ?_
  obtain ⟨u3, hr3, h⟩ := b1S h
  obtain ⟨x3, m3, hc3, h⟩ := b2S h
  refine wm_cV (ci := 12) (As := [vI v1]) (st := [vR v0]) E lk_M_154 rfl im_M_isPlace sl_M_isPlace hr3 (C_M_isPlace (xl X) X.1 v0 v1 μ _ _ hc3) rfl rfl (by rw [hR]; decide) (by rw [hR]; decide) (Nat.le_of_ble_eq_true rfl) dM_holds_3 ?_
  refine wm_if_eq (tgt := 25) E dM_holds_6 (by decide) (fun c6 => ?_) (fun c6 => ?_)
  · have h := (if_pos c6).symm.trans h
    refine wm_pick (lv' := [(0, vR v0), (1, vI v1), (2, vI v2), (3, vI v3), (4, vI v4)]) [0, 1, 2, 3, 4] rfl ?_
    exact w_M_holds_25 E hQ hR hI v0 v1 v2 v3 v4 v0 m3 h
  · have h := (if_neg c6).symm.trans h
    refine wm_iload_n E dM_holds_9 rfl (j := 2) rfl ?_
    refine wm_iload_n E dM_holds_10 rfl (j := 3) rfl ?_
    obtain ⟨x11, m11, hc11, h⟩ := b2S h
    refine wm_cS (As := [vI v2, vI v3]) (st := [vR v0]) E lk_M_147 sc_M_isAt (C_M_isAt (xl X) X.1 v2 v3 m3 _ _ hc11) rfl rfl (by rw [hR]; decide) (by rw [hR]; decide) (Nat.le_of_ble_eq_true rfl) dM_holds_11 ?_
    refine wm_if_eq (tgt := 25) E dM_holds_14 (by decide) (fun c14 => ?_) (fun c14 => ?_)
    · have h := (if_pos c14).symm.trans h
      refine wm_pick (lv' := [(0, vR v0), (1, vI v1), (2, vI v2), (3, vI v3), (4, vI v4)]) [0, 1, 2, 3, 4] rfl ?_
      exact w_M_holds_25 E hQ hR hI v0 v1 v2 v3 v4 v0 m11 h
    · have h := (if_neg c14).symm.trans h
      refine wm_iload E dM_holds_17 (j := 4) rfl ?_
      obtain ⟨x19, m19, hc19, h⟩ := b2S h
      refine wm_cS (As := [vI v4]) (st := [vR v0]) E lk_M_143 sc_M_isDay (C_M_isDay (xl X) X.1 v4 m11 _ _ hc19) rfl rfl (by rw [hR]; decide) (by rw [hR]; decide) (Nat.le_of_ble_eq_true rfl) dM_holds_19 ?_
      refine wm_if_ne (tgt := 29) E dM_holds_22 (by decide) (fun c22 => ?_) (fun c22 => ?_)
      · have h := (if_neg c22).symm.trans h
        refine wm_iconst (x := 0) E dM_holds_29 (by decide) ?_
        refine wm_pick (lv' := [(0, vR v0), (1, vI v1), (2, vI v2), (3, vI v3), (4, vI v4)]) [0, 1, 2, 3, 4] rfl ?_
        exact w_M_holds_30 E hQ hR hI v0 v1 v2 v3 v4 v0 0 m19 h
      · have h := (if_pos c22).symm.trans h
        refine wm_pick (lv' := [(0, vR v0), (1, vI v1), (2, vI v2), (3, vI v3), (4, vI v4)]) [0, 1, 2, 3, 4] rfl ?_
        exact w_M_holds_25 E hQ hR hI v0 v1 v2 v3 v4 v0 m19 h
def B_M_letter_26   (μ : Mem) : Option (Int32 × Mem) := gd (¬ okZ 0 = true) (some (0, μ))
set_option maxHeartbeats 4000000 in
set_option maxRecDepth 100000 in
theorem w_M_letter_26 {X : CX} (E : EV X prog_13_method_18_code 2 "PlaceFinderModel" (some .boolean)) {μ0 μ' : Mem} {r : Int32} (hQ : RQ X 0 0 μ0 (some (vI r)) μ') (hR : xR X = { frames := 0, cells := 0, slots := 0, locals := 0 }) (hI : X.2.2.2.2.2.2.2.2.2.2.2.1.name = "letter")   (μ : Mem) (h : B_M_letter_26   μ = some (r, μ')) : WM X 2 26 [] [] 0 0 μ := by
  have h : (gd (¬ okZ 0 = true) (some (0, μ))) = some (r, μ') := h
  refine wm_iconst (x := 0) E dM_letter_26 (by decide) ?_
  obtain ⟨hz27, h⟩ := gdS h
  exact wm_zret (rt := .boolean) E hQ (rtI h) (rtM h) (okZN hz27) (by decide) (by decide) dM_letter_27
def S_M_letter (v0 : Option Nat) (v1 : Int32) (μ : Mem) : Option (Int32 × Mem) := b1 (pV μ v0 12 0 (vI 0)) (fun m2 => if v1 < 97 then B_M_letter_26 m2 else if 122 < v1 then B_M_letter_26 m2 else b1 (gI m2 v0 12 21) (fun x18 => if x18 = 10 then B_M_letter_26 m2 else b1 (gR m2 v0 12 22) (fun x29 => b1 (gI m2 v0 12 21) (fun x33 => b1 (sI m2 x29 0 x33 v1) (fun m37 => b1 (gI m37 v0 12 21) (fun x40 => b1 (pV m37 v0 12 21 (vI (x40 + 1))) (fun m45 => gd (¬ okZ 1 = true) (some (1, m45)))))))))
set_option maxHeartbeats 4000000 in
set_option maxRecDepth 100000 in
theorem C_M_letter (l : Launch) (G : GG) (v0 : Option Nat) (v1 : Int32) (μ μ' : Mem) (r : Int32) (h : S_M_letter v0 v1 μ = some (r, μ')) : CT l G y_M_letter prog_13_method_18_code 2 (some .boolean) 0 0 0 0 μ [vR v0, vI v1] (some (vI r)) μ' := by
  refine wm_met (lv := [(0, vR v0), (1, vI v1)]) (by decide +kernel) (Nat.le_of_ble_eq_true rfl) rfl (fun X E hQ hR hI => ?_)
  have h : (b1 (pV μ v0 12 0 (vI 0)) (fun m2 => if v1 < 97 then B_M_letter_26 m2 else if 122 < v1 then B_M_letter_26 m2 else b1 (gI m2 v0 12 21) (fun x18 => if x18 = 10 then B_M_letter_26 m2 else b1 (gR m2 v0 12 22) (fun x29 => b1 (gI m2 v0 12 21) (fun x33 => b1 (sI m2 x29 0 x33 v1) (fun m37 => b1 (gI m37 v0 12 21) (fun x40 => b1 (pV m37 v0 12 21 (vI (x40 + 1))) (fun m45 => gd (¬ okZ 1 = true) (some (1, m45)))))))))) = some (r, μ') := h
  refine wm_aload_n E dM_letter_0 rfl (j := 0) rfl ?_
  refine wm_iconst (x := 0) E dM_letter_1 (by decide) ?_
  refine wm_pI E fp_M_132 (fun q => by cases q) h dM_letter_2 (fun m2 h => ?_)
  refine wm_iload_n E dM_letter_5 rfl (j := 1) rfl ?_
  refine wm_bipush (x := 97) E dM_letter_6 (by decide) ?_
  refine wm_icmp_lt (tgt := 26) E dM_letter_8 (by decide) (fun c8 => ?_) (fun c8 => ?_)
  · have h := (if_pos c8).symm.trans h
    refine wm_pick (lv' := []) [] rfl ?_
    exact w_M_letter_26 E hQ hR hI m2 h
  · have h := (if_neg c8).symm.trans h
    refine wm_iload_n E dM_letter_11 rfl (j := 1) rfl ?_
    refine wm_bipush (x := 122) E dM_letter_12 (by decide) ?_
    refine wm_icmp_gt (tgt := 26) E dM_letter_14 (by decide) (fun c14 => ?_) (fun c14 => ?_)
    · have h := (if_pos c14).symm.trans h
      refine wm_pick (lv' := []) [] rfl ?_
      exact w_M_letter_26 E hQ hR hI m2 h
    · have h := (if_neg c14).symm.trans h
      refine wm_aload_n E dM_letter_17 rfl (j := 0) rfl ?_
      refine wm_gI E fd_M_172 h dM_letter_18 (fun x18 h => ?_)
      refine wm_bipush (x := 10) E dM_letter_21 (by decide) ?_
      refine wm_icmp_ne (tgt := 28) E dM_letter_23 (by decide) (fun c23 => ?_) (fun c23 => ?_)
      · have h := (if_neg c23).symm.trans h
        refine wm_aload_n E dM_letter_28 rfl (j := 0) rfl ?_
        refine wm_gR E fd_M_64 h dM_letter_29 (fun x29 h => ?_)
        refine wm_aload_n E dM_letter_32 rfl (j := 0) rfl ?_
        refine wm_gI E fd_M_172 h dM_letter_33 (fun x33 h => ?_)
        refine wm_iload_n E dM_letter_36 rfl (j := 1) rfl ?_
        refine wm_iast (t := 0) E rfl h dM_letter_37 (fun m37 h => ?_)
        refine wm_aload_n E dM_letter_38 rfl (j := 0) rfl ?_
        refine wm_dup E dM_letter_39 rfl ?_
        refine wm_gI E fd_M_172 h dM_letter_40 (fun x40 h => ?_)
        refine wm_iconst (x := 1) E dM_letter_43 (by decide) ?_
        refine wm_iadd E dM_letter_44 ?_
        refine wm_pI E fp_M_172 (fun q => by cases q) h dM_letter_45 (fun m45 h => ?_)
        refine wm_iconst (x := 1) E dM_letter_48 (by decide) ?_
        obtain ⟨hz49, h⟩ := gdS h
        exact wm_zret (rt := .boolean) E hQ (rtI h) (rtM h) (okZN hz49) (by decide) (by decide) dM_letter_49
      · have h := (if_pos c23).symm.trans h
        refine wm_pick (lv' := []) [] rfl ?_
        exact w_M_letter_26 E hQ hR hI m2 h
def B_M_typedAt_18  (s0 : Int32) (μ : Mem) : Option (Int32 × Mem) := some (s0, μ)
set_option maxHeartbeats 4000000 in
set_option maxRecDepth 100000 in
theorem w_M_typedAt_18 {X : CX} (E : EV X prog_13_method_19_code 2 "PlaceFinderModel" (some .int)) {μ0 μ' : Mem} {r : Int32} (hQ : RQ X 0 0 μ0 (some (vI r)) μ') (hR : xR X = { frames := 0, cells := 0, slots := 0, locals := 0 }) (hI : X.2.2.2.2.2.2.2.2.2.2.2.1.name = "typedAt")  (s0 : Int32) (μ : Mem) (h : B_M_typedAt_18  s0 μ = some (r, μ')) : WM X 2 18 [] [vI s0] 0 0 μ := by
  have h : (some (s0, μ)) = some (r, μ') := h
  exact wm_iret (rt := .int) E hQ (rtI h) (rtM h) (by decide) (by decide) dM_typedAt_18
def S_M_typedAt (v0 : Option Nat) (v1 : Int32) (μ : Mem) : Option (Int32 × Mem) := b1 (gI μ v0 12 21) (fun x2 => if x2 ≤ v1 then B_M_typedAt_18 0 μ else b1 (gR μ v0 12 22) (fun x9 => b1 (aI μ x9 0 v1) (fun x13 => B_M_typedAt_18 x13 μ)))
set_option maxHeartbeats 4000000 in
set_option maxRecDepth 100000 in
theorem C_M_typedAt (l : Launch) (G : GG) (v0 : Option Nat) (v1 : Int32) (μ μ' : Mem) (r : Int32) (h : S_M_typedAt v0 v1 μ = some (r, μ')) : CT l G y_M_typedAt prog_13_method_19_code 2 (some .int) 0 0 0 0 μ [vR v0, vI v1] (some (vI r)) μ' := by
  refine wm_met (lv := [(0, vR v0), (1, vI v1)]) (by decide +kernel) (Nat.le_of_ble_eq_true rfl) rfl (fun X E hQ hR hI => ?_)
  have h : (b1 (gI μ v0 12 21) (fun x2 => if x2 ≤ v1 then B_M_typedAt_18 0 μ else b1 (gR μ v0 12 22) (fun x9 => b1 (aI μ x9 0 v1) (fun x13 => B_M_typedAt_18 x13 μ)))) = some (r, μ') := h
  refine wm_iload_n E dM_typedAt_0 rfl (j := 1) rfl ?_
  refine wm_aload_n E dM_typedAt_1 rfl (j := 0) rfl ?_
  refine wm_gI E fd_M_172 h dM_typedAt_2 (fun x2 h => ?_)
  refine wm_icmp_ge (tgt := 17) E dM_typedAt_5 (by decide) (fun c5 => ?_) (fun c5 => ?_)
  · have h := (if_pos c5).symm.trans h
    refine wm_iconst (x := 0) E dM_typedAt_17 (by decide) ?_
    refine wm_pick (lv' := []) [] rfl ?_
    exact w_M_typedAt_18 E hQ hR hI 0 μ h
  · have h := (if_neg c5).symm.trans h
    refine wm_aload_n E dM_typedAt_8 rfl (j := 0) rfl ?_
    refine wm_gR E fd_M_64 h dM_typedAt_9 (fun x9 h => ?_)
    refine wm_iload_n E dM_typedAt_12 rfl (j := 1) rfl ?_
    refine wm_iald (t := 0) E rfl h dM_typedAt_13 (fun x13 h => ?_)
    refine wm_goto (tgt := 18) E dM_typedAt_14 (by decide) ?_
    refine wm_pick (lv' := []) [] rfl ?_
    exact w_M_typedAt_18 E hQ hR hI x13 μ h
def B_M_pairAt_74  (s0 : Int32) (μ : Mem) : Option (Int32 × Mem) := some (s0, μ)
set_option maxHeartbeats 4000000 in
set_option maxRecDepth 100000 in
theorem w_M_pairAt_74 {X : CX} (E : EV X prog_13_method_20_code 4 "PlaceFinderModel" (some .int)) {μ0 μ' : Mem} {r : Int32} (hQ : RQ X 0 0 μ0 (some (vI r)) μ') (hR : xR X = { frames := 1, cells := 0, slots := 0, locals := 21 }) (hI : X.2.2.2.2.2.2.2.2.2.2.2.1.name = "pairAt")  (s0 : Int32) (μ : Mem) (h : B_M_pairAt_74  s0 μ = some (r, μ')) : WM X 4 74 [] [vI s0] 0 0 μ := by
  have h : (some (s0, μ)) = some (r, μ') := h
  exact wm_iret (rt := .int) E hQ (rtI h) (rtM h) (by decide) (by decide) dM_pairAt_74
def B_M_pairAt_73   (μ : Mem) : Option (Int32 × Mem) := B_M_pairAt_74 0 μ
set_option maxHeartbeats 4000000 in
set_option maxRecDepth 100000 in
theorem w_M_pairAt_73 {X : CX} (E : EV X prog_13_method_20_code 4 "PlaceFinderModel" (some .int)) {μ0 μ' : Mem} {r : Int32} (hQ : RQ X 0 0 μ0 (some (vI r)) μ') (hR : xR X = { frames := 1, cells := 0, slots := 0, locals := 21 }) (hI : X.2.2.2.2.2.2.2.2.2.2.2.1.name = "pairAt")   (μ : Mem) (h : B_M_pairAt_73   μ = some (r, μ')) : WM X 4 73 [] [] 0 0 μ := by
  have h : (B_M_pairAt_74 0 μ) = some (r, μ') := h
  refine wm_iconst (x := 0) E dM_pairAt_73 (by decide) ?_
  refine wm_pick (lv' := []) [] rfl ?_
  exact w_M_pairAt_74 E hQ hR hI 0 μ h
def B_M_pairAt_56  (v2 : Int32) (v3 : Int32) (μ : Mem) : Option (Int32 × Mem) := if v2 = 116 then if v3 = 104 then B_M_pairAt_74 116 μ else B_M_pairAt_73 μ else B_M_pairAt_73 μ
set_option maxHeartbeats 4000000 in
set_option maxRecDepth 100000 in
theorem w_M_pairAt_56 {X : CX} (E : EV X prog_13_method_20_code 4 "PlaceFinderModel" (some .int)) {μ0 μ' : Mem} {r : Int32} (hQ : RQ X 0 0 μ0 (some (vI r)) μ') (hR : xR X = { frames := 1, cells := 0, slots := 0, locals := 21 }) (hI : X.2.2.2.2.2.2.2.2.2.2.2.1.name = "pairAt")  (v2 : Int32) (v3 : Int32) (μ : Mem) (h : B_M_pairAt_56  v2 v3 μ = some (r, μ')) : WM X 4 56 [(2, vI v2), (3, vI v3)] [] 0 0 μ := by
  have h : (if v2 = 116 then if v3 = 104 then B_M_pairAt_74 116 μ else B_M_pairAt_73 μ else B_M_pairAt_73 μ) = some (r, μ') := h
  refine wm_iload_n E dM_pairAt_56 rfl (j := 0) rfl ?_
  refine wm_bipush (x := 116) E dM_pairAt_57 (by decide) ?_
  refine wm_icmp_ne (tgt := 73) E dM_pairAt_59 (by decide) (fun c59 => ?_) (fun c59 => ?_)
  · have h := (if_neg c59).symm.trans h
    refine wm_pick (lv' := []) [] rfl ?_
    exact w_M_pairAt_73 E hQ hR hI μ h
  · have h := (if_pos c59).symm.trans h
    refine wm_iload_n E dM_pairAt_62 rfl (j := 1) rfl ?_
    refine wm_bipush (x := 104) E dM_pairAt_63 (by decide) ?_
    refine wm_icmp_ne (tgt := 73) E dM_pairAt_65 (by decide) (fun c65 => ?_) (fun c65 => ?_)
    · have h := (if_neg c65).symm.trans h
      refine wm_pick (lv' := []) [] rfl ?_
      exact w_M_pairAt_73 E hQ hR hI μ h
    · have h := (if_pos c65).symm.trans h
      refine wm_bipush (x := 116) E dM_pairAt_68 (by decide) ?_
      refine wm_goto (tgt := 74) E dM_pairAt_70 (by decide) ?_
      refine wm_pick (lv' := []) [] rfl ?_
      exact w_M_pairAt_74 E hQ hR hI 116 μ h
def B_M_pairAt_53   (μ : Mem) : Option (Int32 × Mem) := some (107, μ)
set_option maxHeartbeats 4000000 in
set_option maxRecDepth 100000 in
theorem w_M_pairAt_53 {X : CX} (E : EV X prog_13_method_20_code 4 "PlaceFinderModel" (some .int)) {μ0 μ' : Mem} {r : Int32} (hQ : RQ X 0 0 μ0 (some (vI r)) μ') (hR : xR X = { frames := 1, cells := 0, slots := 0, locals := 21 }) (hI : X.2.2.2.2.2.2.2.2.2.2.2.1.name = "pairAt")   (μ : Mem) (h : B_M_pairAt_53   μ = some (r, μ')) : WM X 4 53 [] [] 0 0 μ := by
  have h : (some (107, μ)) = some (r, μ') := h
  refine wm_bipush (x := 107) E dM_pairAt_53 (by decide) ?_
  exact wm_iret (rt := .int) E hQ (rtI h) (rtM h) (by decide) (by decide) dM_pairAt_55
def B_M_pairAt_41  (v2 : Int32) (v3 : Int32) (μ : Mem) : Option (Int32 × Mem) := if v2 = 113 then if v3 = 117 then B_M_pairAt_53 μ else B_M_pairAt_56 v2 v3 μ else B_M_pairAt_56 v2 v3 μ
set_option maxHeartbeats 4000000 in
set_option maxRecDepth 100000 in
theorem w_M_pairAt_41 {X : CX} (E : EV X prog_13_method_20_code 4 "PlaceFinderModel" (some .int)) {μ0 μ' : Mem} {r : Int32} (hQ : RQ X 0 0 μ0 (some (vI r)) μ') (hR : xR X = { frames := 1, cells := 0, slots := 0, locals := 21 }) (hI : X.2.2.2.2.2.2.2.2.2.2.2.1.name = "pairAt")  (v2 : Int32) (v3 : Int32) (μ : Mem) (h : B_M_pairAt_41  v2 v3 μ = some (r, μ')) : WM X 4 41 [(2, vI v2), (3, vI v3)] [] 0 0 μ := by
  have h : (if v2 = 113 then if v3 = 117 then B_M_pairAt_53 μ else B_M_pairAt_56 v2 v3 μ else B_M_pairAt_56 v2 v3 μ) = some (r, μ') := h
  refine wm_iload_n E dM_pairAt_41 rfl (j := 0) rfl ?_
  refine wm_bipush (x := 113) E dM_pairAt_42 (by decide) ?_
  refine wm_icmp_ne (tgt := 56) E dM_pairAt_44 (by decide) (fun c44 => ?_) (fun c44 => ?_)
  · have h := (if_neg c44).symm.trans h
    refine wm_pick (lv' := [(2, vI v2), (3, vI v3)]) [0, 1] rfl ?_
    exact w_M_pairAt_56 E hQ hR hI v2 v3 μ h
  · have h := (if_pos c44).symm.trans h
    refine wm_iload_n E dM_pairAt_47 rfl (j := 1) rfl ?_
    refine wm_bipush (x := 117) E dM_pairAt_48 (by decide) ?_
    refine wm_icmp_ne (tgt := 56) E dM_pairAt_50 (by decide) (fun c50 => ?_) (fun c50 => ?_)
    · have h := (if_neg c50).symm.trans h
      refine wm_pick (lv' := [(2, vI v2), (3, vI v3)]) [0, 1] rfl ?_
      exact w_M_pairAt_56 E hQ hR hI v2 v3 μ h
    · have h := (if_pos c50).symm.trans h
      refine wm_pick (lv' := []) [] rfl ?_
      exact w_M_pairAt_53 E hQ hR hI μ h
def B_M_pairAt_29  (v2 : Int32) (v3 : Int32) (μ : Mem) : Option (Int32 × Mem) := if v2 = 99 then if v3 = 107 then B_M_pairAt_53 μ else B_M_pairAt_41 v2 v3 μ else B_M_pairAt_41 v2 v3 μ
set_option maxHeartbeats 4000000 in
set_option maxRecDepth 100000 in
theorem w_M_pairAt_29 {X : CX} (E : EV X prog_13_method_20_code 4 "PlaceFinderModel" (some .int)) {μ0 μ' : Mem} {r : Int32} (hQ : RQ X 0 0 μ0 (some (vI r)) μ') (hR : xR X = { frames := 1, cells := 0, slots := 0, locals := 21 }) (hI : X.2.2.2.2.2.2.2.2.2.2.2.1.name = "pairAt")  (v2 : Int32) (v3 : Int32) (μ : Mem) (h : B_M_pairAt_29  v2 v3 μ = some (r, μ')) : WM X 4 29 [(2, vI v2), (3, vI v3)] [] 0 0 μ := by
  have h : (if v2 = 99 then if v3 = 107 then B_M_pairAt_53 μ else B_M_pairAt_41 v2 v3 μ else B_M_pairAt_41 v2 v3 μ) = some (r, μ') := h
  refine wm_iload_n E dM_pairAt_29 rfl (j := 0) rfl ?_
  refine wm_bipush (x := 99) E dM_pairAt_30 (by decide) ?_
  refine wm_icmp_ne (tgt := 41) E dM_pairAt_32 (by decide) (fun c32 => ?_) (fun c32 => ?_)
  · have h := (if_neg c32).symm.trans h
    refine wm_pick (lv' := [(2, vI v2), (3, vI v3)]) [0, 1] rfl ?_
    exact w_M_pairAt_41 E hQ hR hI v2 v3 μ h
  · have h := (if_pos c32).symm.trans h
    refine wm_iload_n E dM_pairAt_35 rfl (j := 1) rfl ?_
    refine wm_bipush (x := 107) E dM_pairAt_36 (by decide) ?_
    refine wm_icmp_eq (tgt := 53) E dM_pairAt_38 (by decide) (fun c38 => ?_) (fun c38 => ?_)
    · have h := (if_pos c38).symm.trans h
      refine wm_pick (lv' := []) [] rfl ?_
      exact w_M_pairAt_53 E hQ hR hI μ h
    · have h := (if_neg c38).symm.trans h
      refine wm_pick (lv' := [(2, vI v2), (3, vI v3)]) [0, 1] rfl ?_
      exact w_M_pairAt_41 E hQ hR hI v2 v3 μ h
def S_M_pairAt (v0 : Option Nat) (v1 : Int32) (μ : Mem) : Option (Int32 × Mem) := b1 (rc μ v0 12) (fun _ => b2 (S_M_typedAt v0 v1 μ) (fun x2 m2 => b1 (rc m2 v0 12) (fun _ => b2 (S_M_typedAt v0 (v1 + 1) m2) (fun x10 m10 => if x2 = 112 then if x10 = 104 then some (102, m10) else B_M_pairAt_29 x2 x10 m10 else B_M_pairAt_29 x2 x10 m10))))
set_option maxHeartbeats 4000000 in
set_option maxRecDepth 100000 in
theorem C_M_pairAt (l : Launch) (G : GG) (v0 : Option Nat) (v1 : Int32) (μ μ' : Mem) (r : Int32) (h : S_M_pairAt v0 v1 μ = some (r, μ')) : CT l G y_M_pairAt prog_13_method_20_code 4 (some .int) 1 0 0 21 μ [vR v0, vI v1] (some (vI r)) μ' := by
  refine wm_met (lv := [(0, vR v0), (1, vI v1)]) (by decide +kernel) (Nat.le_of_ble_eq_true rfl) rfl (fun X E hQ hR hI => ?_)
  have h : (b1 (rc μ v0 12) (fun _ => b2 (S_M_typedAt v0 v1 μ) (fun x2 m2 => b1 (rc m2 v0 12) (fun _ => b2 (S_M_typedAt v0 (v1 + 1) m2) (fun x10 m10 => if x2 = 112 then if x10 = 104 then some (102, m10) else B_M_pairAt_29 x2 x10 m10 else B_M_pairAt_29 x2 x10 m10))))) = some (r, μ') := h
  refine wm_aload_n E dM_pairAt_0 rfl (j := 0) rfl ?_
  refine wm_iload_n E dM_pairAt_1 rfl (j := 1) rfl ?_
  obtain ⟨u2, hr2, h⟩ := b1S h
  obtain ⟨x2, m2, hc2, h⟩ := b2S h
  refine wm_cV (ci := 12) (As := [vI v1]) (st := []) E lk_M_175 rfl im_M_typedAt sl_M_typedAt hr2 (C_M_typedAt (xl X) X.1 v0 v1 μ _ _ hc2) rfl rfl (by rw [hR]; decide) (by rw [hR]; decide) (Nat.le_of_ble_eq_true rfl) dM_pairAt_2 ?_
  refine wm_istore_n (lv' := [(2, vI x2), (0, vR v0), (1, vI v1)]) E dM_pairAt_5 rfl (by decide) rfl ?_
  refine wm_aload_n E dM_pairAt_6 rfl (j := 1) rfl ?_
  refine wm_iload_n E dM_pairAt_7 rfl (j := 2) rfl ?_
  refine wm_iconst (x := 1) E dM_pairAt_8 (by decide) ?_
  refine wm_iadd E dM_pairAt_9 ?_
  obtain ⟨u10, hr10, h⟩ := b1S h
  obtain ⟨x10, m10, hc10, h⟩ := b2S h
  refine wm_cV (ci := 12) (As := [vI (v1 + 1)]) (st := []) E lk_M_175 rfl im_M_typedAt sl_M_typedAt hr10 (C_M_typedAt (xl X) X.1 v0 (v1 + 1) m2 _ _ hc10) rfl rfl (by rw [hR]; decide) (by rw [hR]; decide) (Nat.le_of_ble_eq_true rfl) dM_pairAt_10 ?_
  refine wm_istore_n (lv' := [(3, vI x10), (2, vI x2), (0, vR v0), (1, vI v1)]) E dM_pairAt_13 rfl (by decide) rfl ?_
  refine wm_iload_n E dM_pairAt_14 rfl (j := 1) rfl ?_
  refine wm_bipush (x := 112) E dM_pairAt_15 (by decide) ?_
  refine wm_icmp_ne (tgt := 29) E dM_pairAt_17 (by decide) (fun c17 => ?_) (fun c17 => ?_)
  · have h := (if_neg c17).symm.trans h
    refine wm_pick (lv' := [(2, vI x2), (3, vI x10)]) [1, 0] rfl ?_
    exact w_M_pairAt_29 E hQ hR hI x2 x10 m10 h
  · have h := (if_pos c17).symm.trans h
    refine wm_iload_n E dM_pairAt_20 rfl (j := 0) rfl ?_
    refine wm_bipush (x := 104) E dM_pairAt_21 (by decide) ?_
    refine wm_icmp_ne (tgt := 29) E dM_pairAt_23 (by decide) (fun c23 => ?_) (fun c23 => ?_)
    · have h := (if_neg c23).symm.trans h
      refine wm_pick (lv' := [(2, vI x2), (3, vI x10)]) [1, 0] rfl ?_
      exact w_M_pairAt_29 E hQ hR hI x2 x10 m10 h
    · have h := (if_pos c23).symm.trans h
      refine wm_bipush (x := 102) E dM_pairAt_26 (by decide) ?_
      exact wm_iret (rt := .int) E hQ (rtI h) (rtM h) (by decide) (by decide) dM_pairAt_28
def B_M_foldTyped_97 (k7 : Option Nat → Int32 → Mem → Option (Unit × Mem)) (v0 : Option Nat) (v3 : Int32) (μ : Mem) : Option (Unit × Mem) := k7 v0 v3 μ
set_option maxHeartbeats 4000000 in
set_option maxRecDepth 100000 in
theorem w_M_foldTyped_97 {X : CX} (E : EV X prog_13_method_21_code 4 "PlaceFinderModel" none) {μ0 μ' : Mem} {r : Unit} (hQ : RQ X 0 0 μ0 none μ') (hR : xR X = { frames := 2, cells := 0, slots := 0, locals := 44 }) (hI : X.2.2.2.2.2.2.2.2.2.2.2.1.name = "foldTyped") (k7 : Option Nat → Int32 → Mem → Option (Unit × Mem)) (hk7 : ∀ (v0 : Option Nat) (v1 : Int32) (μ : Mem), k7 v0 v1 μ = some (r, μ') → WM X 4 7 [(0, vR v0), (1, vI v1)] [] 0 0 μ) (v0 : Option Nat) (v3 : Int32) (μ : Mem) (h : B_M_foldTyped_97 k7 v0 v3 μ = some (r, μ')) : WM X 4 97 [(0, vR v0), (3, vI v3)] [] 0 0 μ := by
  have h : (k7 v0 v3 μ) = some (r, μ') := h
  refine wm_iload_n E dM_foldTyped_97 rfl (j := 1) rfl ?_
  refine wm_istore_n (lv' := [(1, vI v3), (0, vR v0), (3, vI v3)]) E dM_foldTyped_98 rfl (by decide) rfl ?_
  refine wm_goto (tgt := 7) E dM_foldTyped_99 (by decide) ?_
  refine wm_pick (lv' := [(0, vR v0), (1, vI v3)]) [1, 0] rfl ?_
  exact hk7 v0 v3 μ h
def B_M_foldTyped_77 (k7 : Option Nat → Int32 → Mem → Option (Unit × Mem)) (v0 : Option Nat) (v2 : Int32) (v3 : Int32) (μ : Mem) : Option (Unit × Mem) := b1 (gR μ v0 12 39) (fun x78 => b1 (gI μ v0 12 38) (fun x82 => b1 (sI μ x78 0 x82 v2) (fun m86 => b1 (gI m86 v0 12 38) (fun x89 => b1 (pV m86 v0 12 38 (vI (x89 + 1))) (fun m94 => B_M_foldTyped_97 k7 v0 v3 m94)))))
set_option maxHeartbeats 4000000 in
set_option maxRecDepth 100000 in
theorem w_M_foldTyped_77 {X : CX} (E : EV X prog_13_method_21_code 4 "PlaceFinderModel" none) {μ0 μ' : Mem} {r : Unit} (hQ : RQ X 0 0 μ0 none μ') (hR : xR X = { frames := 2, cells := 0, slots := 0, locals := 44 }) (hI : X.2.2.2.2.2.2.2.2.2.2.2.1.name = "foldTyped") (k7 : Option Nat → Int32 → Mem → Option (Unit × Mem)) (hk7 : ∀ (v0 : Option Nat) (v1 : Int32) (μ : Mem), k7 v0 v1 μ = some (r, μ') → WM X 4 7 [(0, vR v0), (1, vI v1)] [] 0 0 μ) (v0 : Option Nat) (v2 : Int32) (v3 : Int32) (μ : Mem) (h : B_M_foldTyped_77 k7 v0 v2 v3 μ = some (r, μ')) : WM X 4 77 [(0, vR v0), (2, vI v2), (3, vI v3)] [] 0 0 μ := by
  have h : (b1 (gR μ v0 12 39) (fun x78 => b1 (gI μ v0 12 38) (fun x82 => b1 (sI μ x78 0 x82 v2) (fun m86 => b1 (gI m86 v0 12 38) (fun x89 => b1 (pV m86 v0 12 38 (vI (x89 + 1))) (fun m94 => B_M_foldTyped_97 k7 v0 v3 m94)))))) = some (r, μ') := h
  refine wm_aload_n E dM_foldTyped_77 rfl (j := 0) rfl ?_
  refine wm_gR E fd_M_110 h dM_foldTyped_78 (fun x78 h => ?_)
  refine wm_aload_n E dM_foldTyped_81 rfl (j := 0) rfl ?_
  refine wm_gI E fd_M_179 h dM_foldTyped_82 (fun x82 h => ?_)
  refine wm_iload_n E dM_foldTyped_85 rfl (j := 1) rfl ?_
  refine wm_iast (t := 0) E rfl h dM_foldTyped_86 (fun m86 h => ?_)
  refine wm_aload_n E dM_foldTyped_87 rfl (j := 0) rfl ?_
  refine wm_dup E dM_foldTyped_88 rfl ?_
  refine wm_gI E fd_M_179 h dM_foldTyped_89 (fun x89 h => ?_)
  refine wm_iconst (x := 1) E dM_foldTyped_92 (by decide) ?_
  refine wm_iadd E dM_foldTyped_93 ?_
  refine wm_pI E fp_M_179 (fun q => by cases q) h dM_foldTyped_94 (fun m94 h => ?_)
  refine wm_pick (lv' := [(0, vR v0), (3, vI v3)]) [0, 2] rfl ?_
  exact w_M_foldTyped_97 E hQ hR hI k7 hk7 v0 v3 m94 h
def B_M_foldTyped_55 (k7 : Option Nat → Int32 → Mem → Option (Unit × Mem)) (v0 : Option Nat) (v2 : Int32) (v3 : Int32) (μ : Mem) : Option (Unit × Mem) := b1 (gI μ v0 12 38) (fun x56 => if x56 = 0 then B_M_foldTyped_77 k7 v0 v2 v3 μ else b1 (gR μ v0 12 39) (fun x63 => b1 (gI μ v0 12 38) (fun x67 => b1 (aI μ x63 0 (x67 - 1)) (fun x72 => if x72 = v2 then B_M_foldTyped_97 k7 v0 v3 μ else B_M_foldTyped_77 k7 v0 v2 v3 μ))))
set_option maxHeartbeats 4000000 in
set_option maxRecDepth 100000 in
theorem w_M_foldTyped_55 {X : CX} (E : EV X prog_13_method_21_code 4 "PlaceFinderModel" none) {μ0 μ' : Mem} {r : Unit} (hQ : RQ X 0 0 μ0 none μ') (hR : xR X = { frames := 2, cells := 0, slots := 0, locals := 44 }) (hI : X.2.2.2.2.2.2.2.2.2.2.2.1.name = "foldTyped") (k7 : Option Nat → Int32 → Mem → Option (Unit × Mem)) (hk7 : ∀ (v0 : Option Nat) (v1 : Int32) (μ : Mem), k7 v0 v1 μ = some (r, μ') → WM X 4 7 [(0, vR v0), (1, vI v1)] [] 0 0 μ) (v0 : Option Nat) (v2 : Int32) (v3 : Int32) (μ : Mem) (h : B_M_foldTyped_55 k7 v0 v2 v3 μ = some (r, μ')) : WM X 4 55 [(0, vR v0), (2, vI v2), (3, vI v3)] [] 0 0 μ := by
  have h : (b1 (gI μ v0 12 38) (fun x56 => if x56 = 0 then B_M_foldTyped_77 k7 v0 v2 v3 μ else b1 (gR μ v0 12 39) (fun x63 => b1 (gI μ v0 12 38) (fun x67 => b1 (aI μ x63 0 (x67 - 1)) (fun x72 => if x72 = v2 then B_M_foldTyped_97 k7 v0 v3 μ else B_M_foldTyped_77 k7 v0 v2 v3 μ))))) = some (r, μ') := h
  refine wm_aload_n E dM_foldTyped_55 rfl (j := 0) rfl ?_
  refine wm_gI E fd_M_179 h dM_foldTyped_56 (fun x56 h => ?_)
  refine wm_if_eq (tgt := 77) E dM_foldTyped_59 (by decide) (fun c59 => ?_) (fun c59 => ?_)
  · have h := (if_pos c59).symm.trans h
    refine wm_pick (lv' := [(0, vR v0), (2, vI v2), (3, vI v3)]) [0, 1, 2] rfl ?_
    exact w_M_foldTyped_77 E hQ hR hI k7 hk7 v0 v2 v3 μ h
  · have h := (if_neg c59).symm.trans h
    refine wm_aload_n E dM_foldTyped_62 rfl (j := 0) rfl ?_
    refine wm_gR E fd_M_110 h dM_foldTyped_63 (fun x63 h => ?_)
    refine wm_aload_n E dM_foldTyped_66 rfl (j := 0) rfl ?_
    refine wm_gI E fd_M_179 h dM_foldTyped_67 (fun x67 h => ?_)
    refine wm_iconst (x := 1) E dM_foldTyped_70 (by decide) ?_
    refine wm_isub E dM_foldTyped_71 ?_
    refine wm_iald (t := 0) E rfl h dM_foldTyped_72 (fun x72 h => ?_)
    refine wm_iload_n E dM_foldTyped_73 rfl (j := 1) rfl ?_
    refine wm_icmp_eq (tgt := 97) E dM_foldTyped_74 (by decide) (fun c74 => ?_) (fun c74 => ?_)
    · have h := (if_pos c74).symm.trans h
      refine wm_pick (lv' := [(0, vR v0), (3, vI v3)]) [0, 2] rfl ?_
      exact w_M_foldTyped_97 E hQ hR hI k7 hk7 v0 v3 μ h
    · have h := (if_neg c74).symm.trans h
      refine wm_pick (lv' := [(0, vR v0), (2, vI v2), (3, vI v3)]) [0, 1, 2] rfl ?_
      exact w_M_foldTyped_77 E hQ hR hI k7 hk7 v0 v2 v3 μ h
def B_M_foldTyped_40 (k7 : Option Nat → Int32 → Mem → Option (Unit × Mem)) : Nat → Option Nat → Int32 → Int32 → Mem → Option (Unit × Mem)
  | 0, _, _, _, _ => none
  | n + 1, v0, v2, v3, μ => b1 (rc μ v0 12) (fun _ => b2 (S_M_typedAt v0 v3 μ) (fun x42 m42 => if x42 = v2 then (fun v0 v2 v3 μ => B_M_foldTyped_40 k7 n v0 v2 v3 μ) v0 v2 (v3 + 1) m42 else B_M_foldTyped_55 k7 v0 v2 v3 m42))
set_option maxHeartbeats 4000000 in
set_option maxRecDepth 100000 in
theorem w_M_foldTyped_40 {X : CX} (E : EV X prog_13_method_21_code 4 "PlaceFinderModel" none) {μ0 μ' : Mem} {r : Unit} (hQ : RQ X 0 0 μ0 none μ') (hR : xR X = { frames := 2, cells := 0, slots := 0, locals := 44 }) (hI : X.2.2.2.2.2.2.2.2.2.2.2.1.name = "foldTyped") (k7 : Option Nat → Int32 → Mem → Option (Unit × Mem)) (hk7 : ∀ (v0 : Option Nat) (v1 : Int32) (μ : Mem), k7 v0 v1 μ = some (r, μ') → WM X 4 7 [(0, vR v0), (1, vI v1)] [] 0 0 μ) (n : Nat) : ∀ (v0 : Option Nat) (v2 : Int32) (v3 : Int32) (μ : Mem) (h : B_M_foldTyped_40 k7 n v0 v2 v3 μ = some (r, μ')), WM X 4 40 [(0, vR v0), (2, vI v2), (3, vI v3)] [] 0 0 μ := by
  induction n with
  | zero => intro v0 v2 v3 μ h; cases h
  | succ n ih =>
    intro v0 v2 v3 μ h
    have h : (b1 (rc μ v0 12) (fun _ => b2 (S_M_typedAt v0 v3 μ) (fun x42 m42 => if x42 = v2 then (fun v0 v2 v3 μ => B_M_foldTyped_40 k7 n v0 v2 v3 μ) v0 v2 (v3 + 1) m42 else B_M_foldTyped_55 k7 v0 v2 v3 m42))) = some (r, μ') := h
    refine wm_aload_n E dM_foldTyped_40 rfl (j := 0) rfl ?_
    refine wm_iload_n E dM_foldTyped_41 rfl (j := 2) rfl ?_
    obtain ⟨u42, hr42, h⟩ := b1S h
    obtain ⟨x42, m42, hc42, h⟩ := b2S h
    refine wm_cV (ci := 12) (As := [vI v3]) (st := []) E lk_M_175 rfl im_M_typedAt sl_M_typedAt hr42 (C_M_typedAt (xl X) X.1 v0 v3 μ _ _ hc42) rfl rfl (by rw [hR]; decide) (by rw [hR]; decide) (Nat.le_of_ble_eq_true rfl) dM_foldTyped_42 ?_
    refine wm_iload_n E dM_foldTyped_45 rfl (j := 1) rfl ?_
    refine wm_icmp_ne (tgt := 55) E dM_foldTyped_46 (by decide) (fun c46 => ?_) (fun c46 => ?_)
    · have h := (if_neg c46).symm.trans h
      refine wm_pick (lv' := [(0, vR v0), (2, vI v2), (3, vI v3)]) [0, 1, 2] rfl ?_
      exact w_M_foldTyped_55 E hQ hR hI k7 hk7 v0 v2 v3 m42 h
    · have h := (if_pos c46).symm.trans h
      refine wm_iinc (lv' := [(3, vI (v3 + 1)), (0, vR v0), (2, vI v2)]) (d := 1) E dM_foldTyped_49 (by decide) (j := 2) rfl (by decide) rfl ?_
      refine wm_goto (tgt := 40) E dM_foldTyped_52 (by decide) ?_
      refine wm_pick (lv' := [(0, vR v0), (2, vI v2), (3, vI (v3 + 1))]) [1, 2, 0] rfl ?_
      exact ih v0 v2 (v3 + 1) m42 h
def B_M_foldTyped_7  : Nat → Option Nat → Int32 → Mem → Option (Unit × Mem)
  | 0, _, _, _ => none
  | n + 1, v0, v1, μ => b1 (gI μ v0 12 21) (fun x9 => if x9 ≤ v1 then some ((), μ) else b1 (rc μ v0 12) (fun _ => b2 (S_M_pairAt v0 v1 μ) (fun x17 m17 => b0 (v1 + 2) (fun x24 => if x17 = 0 then b1 (gR m17 v0 12 22) (fun x30 => b1 (aI m17 x30 0 v1) (fun x34 => b0 (v1 + 1) (fun x39 => B_M_foldTyped_40 (fun v0 v1 μ => B_M_foldTyped_7 n v0 v1 μ) fu v0 x34 x39 m17))) else B_M_foldTyped_55 (fun v0 v1 μ => B_M_foldTyped_7 n v0 v1 μ) v0 x17 x24 m17))))
set_option maxHeartbeats 4000000 in
set_option maxRecDepth 100000 in
theorem w_M_foldTyped_7 {X : CX} (E : EV X prog_13_method_21_code 4 "PlaceFinderModel" none) {μ0 μ' : Mem} {r : Unit} (hQ : RQ X 0 0 μ0 none μ') (hR : xR X = { frames := 2, cells := 0, slots := 0, locals := 44 }) (hI : X.2.2.2.2.2.2.2.2.2.2.2.1.name = "foldTyped")  (n : Nat) : ∀ (v0 : Option Nat) (v1 : Int32) (μ : Mem) (h : B_M_foldTyped_7  n v0 v1 μ = some (r, μ')), WM X 4 7 [(0, vR v0), (1, vI v1)] [] 0 0 μ := by
  induction n with
  | zero => intro v0 v1 μ h; cases h
  | succ n ih =>
    intro v0 v1 μ h
    have h : (b1 (gI μ v0 12 21) (fun x9 => if x9 ≤ v1 then some ((), μ) else b1 (rc μ v0 12) (fun _ => b2 (S_M_pairAt v0 v1 μ) (fun x17 m17 => b0 (v1 + 2) (fun x24 => if x17 = 0 then b1 (gR m17 v0 12 22) (fun x30 => b1 (aI m17 x30 0 v1) (fun x34 => b0 (v1 + 1) (fun x39 => B_M_foldTyped_40 (fun v0 v1 μ => B_M_foldTyped_7 n v0 v1 μ) fu v0 x34 x39 m17))) else B_M_foldTyped_55 (fun v0 v1 μ => B_M_foldTyped_7 n v0 v1 μ) v0 x17 x24 m17))))) = some (r, μ') := h
    refine wm_iload_n E dM_foldTyped_7 rfl (j := 1) rfl ?_
    refine wm_aload_n E dM_foldTyped_8 rfl (j := 0) rfl ?_
    refine wm_gI E fd_M_172 h dM_foldTyped_9 (fun x9 h => ?_)
    refine wm_icmp_ge (tgt := 102) E dM_foldTyped_12 (by decide) (fun c12 => ?_) (fun c12 => ?_)
    · have h := (if_pos c12).symm.trans h
      exact wm_vret E hQ rfl (rtM h) (by decide) (by decide) dM_foldTyped_102
    · have h := (if_neg c12).symm.trans h
      refine wm_aload_n E dM_foldTyped_15 rfl (j := 0) rfl ?_
      refine wm_iload_n E dM_foldTyped_16 rfl (j := 1) rfl ?_
      obtain ⟨u17, hr17, h⟩ := b1S h
      obtain ⟨x17, m17, hc17, h⟩ := b2S h
      refine wm_cV (ci := 12) (As := [vI v1]) (st := []) E lk_M_182 rfl im_M_pairAt sl_M_pairAt hr17 (C_M_pairAt (xl X) X.1 v0 v1 μ _ _ hc17) rfl rfl (by rw [hR]; decide) (by rw [hR]; decide) (Nat.le_of_ble_eq_true rfl) dM_foldTyped_17 ?_
      refine wm_istore_n (lv' := [(2, vI x17), (0, vR v0), (1, vI v1)]) E dM_foldTyped_20 rfl (by decide) rfl ?_
      refine wm_iload_n E dM_foldTyped_21 rfl (j := 2) rfl ?_
      refine wm_iconst (x := 2) E dM_foldTyped_22 (by decide) ?_
      refine wm_iadd E dM_foldTyped_23 ?_
      refine wm_letI h (fun x24 h => ?_)
      refine wm_istore_n (lv' := [(3, vI x24), (2, vI x17), (0, vR v0), (1, vI v1)]) E dM_foldTyped_24 rfl (by decide) rfl ?_
      refine wm_iload_n E dM_foldTyped_25 rfl (j := 1) rfl ?_
      refine wm_if_ne (tgt := 55) E dM_foldTyped_26 (by decide) (fun c26 => ?_) (fun c26 => ?_)
      · have h := (if_neg c26).symm.trans h
        refine wm_pick (lv' := [(0, vR v0), (2, vI x17), (3, vI x24)]) [2, 1, 0] rfl ?_
        exact w_M_foldTyped_55 E hQ hR hI (fun v0 v1 μ => B_M_foldTyped_7 n v0 v1 μ) ih v0 x17 x24 m17 h
      · have h := (if_pos c26).symm.trans h
        refine wm_aload_n E dM_foldTyped_29 rfl (j := 2) rfl ?_
        refine wm_gR E fd_M_64 h dM_foldTyped_30 (fun x30 h => ?_)
        refine wm_iload_n E dM_foldTyped_33 rfl (j := 3) rfl ?_
        refine wm_iald (t := 0) E rfl h dM_foldTyped_34 (fun x34 h => ?_)
        refine wm_istore_n (lv' := [(2, vI x34), (3, vI x24), (0, vR v0), (1, vI v1)]) E dM_foldTyped_35 rfl (by decide) rfl ?_
        refine wm_iload_n E dM_foldTyped_36 rfl (j := 3) rfl ?_
        refine wm_iconst (x := 1) E dM_foldTyped_37 (by decide) ?_
        refine wm_iadd E dM_foldTyped_38 ?_
        refine wm_letI h (fun x39 h => ?_)
        refine wm_istore_n (lv' := [(3, vI x39), (2, vI x34), (0, vR v0), (1, vI v1)]) E dM_foldTyped_39 rfl (by decide) rfl ?_
        refine wm_pick (lv' := [(0, vR v0), (2, vI x34), (3, vI x39)]) [2, 1, 0] rfl ?_
        exact w_M_foldTyped_40 E hQ hR hI (fun v0 v1 μ => B_M_foldTyped_7 n v0 v1 μ) ih fu v0 x34 x39 m17 h
def S_M_foldTyped (v0 : Option Nat) (μ : Mem) : Option (Unit × Mem) := b1 (pV μ v0 12 38 (vI 0)) (fun m2 => B_M_foldTyped_7 fu v0 0 m2)
set_option maxHeartbeats 4000000 in
set_option maxRecDepth 100000 in
theorem C_M_foldTyped (l : Launch) (G : GG) (v0 : Option Nat) (μ μ' : Mem) (r : Unit) (h : S_M_foldTyped v0 μ = some (r, μ')) : CT l G y_M_foldTyped prog_13_method_21_code 4 none 2 0 0 44 μ [vR v0] none μ' := by
  refine wm_met (lv := [(0, vR v0)]) (by decide +kernel) (Nat.le_of_ble_eq_true rfl) rfl (fun X E hQ hR hI => ?_)
  have h : (b1 (pV μ v0 12 38 (vI 0)) (fun m2 => B_M_foldTyped_7 fu v0 0 m2)) = some (r, μ') := h
  refine wm_aload_n E dM_foldTyped_0 rfl (j := 0) rfl ?_
  refine wm_iconst (x := 0) E dM_foldTyped_1 (by decide) ?_
  refine wm_pI E fp_M_179 (fun q => by cases q) h dM_foldTyped_2 (fun m2 h => ?_)
  refine wm_iconst (x := 0) E dM_foldTyped_5 (by decide) ?_
  refine wm_istore_n (lv' := [(1, vI 0), (0, vR v0)]) E dM_foldTyped_6 rfl (by decide) rfl ?_
  refine wm_pick (lv' := [(0, vR v0), (1, vI 0)]) [1, 0] rfl ?_
  exact w_M_foldTyped_7 E hQ hR hI fu v0 0 m2 h
def B_M_foldName_12  : Nat → Option Nat → Int32 → Int32 → Mem → Option (Unit × Mem)
  | 0, _, _, _, _ => none
  | n + 1, v0, v1, v2, μ => b1 (gI μ v0 12 38) (fun x14 => if x14 ≤ v2 then some ((), μ) else b1 (gR μ v0 12 39) (fun x21 => b1 (gR μ v0 12 13) (fun x26 => b1 (aI μ x26 0 ((10 * v1) + v2)) (fun x35 => b1 (sI μ x21 0 v2 x35) (fun m36 => (fun v0 v1 v2 μ => B_M_foldName_12 n v0 v1 v2 μ) v0 v1 (v2 + 1) m36)))))
set_option maxHeartbeats 4000000 in
set_option maxRecDepth 100000 in
theorem w_M_foldName_12 {X : CX} (E : EV X prog_13_method_22_code 3 "PlaceFinderModel" none) {μ0 μ' : Mem} {r : Unit} (hQ : RQ X 0 0 μ0 none μ') (hR : xR X = { frames := 0, cells := 0, slots := 0, locals := 0 }) (hI : X.2.2.2.2.2.2.2.2.2.2.2.1.name = "foldName")  (n : Nat) : ∀ (v0 : Option Nat) (v1 : Int32) (v2 : Int32) (μ : Mem) (h : B_M_foldName_12  n v0 v1 v2 μ = some (r, μ')), WM X 3 12 [(0, vR v0), (1, vI v1), (2, vI v2)] [] 0 0 μ := by
  induction n with
  | zero => intro v0 v1 v2 μ h; cases h
  | succ n ih =>
    intro v0 v1 v2 μ h
    have h : (b1 (gI μ v0 12 38) (fun x14 => if x14 ≤ v2 then some ((), μ) else b1 (gR μ v0 12 39) (fun x21 => b1 (gR μ v0 12 13) (fun x26 => b1 (aI μ x26 0 ((10 * v1) + v2)) (fun x35 => b1 (sI μ x21 0 v2 x35) (fun m36 => (fun v0 v1 v2 μ => B_M_foldName_12 n v0 v1 v2 μ) v0 v1 (v2 + 1) m36)))))) = some (r, μ') := h
    refine wm_iload_n E dM_foldName_12 rfl (j := 2) rfl ?_
    refine wm_aload_n E dM_foldName_13 rfl (j := 0) rfl ?_
    refine wm_gI E fd_M_179 h dM_foldName_14 (fun x14 h => ?_)
    refine wm_icmp_ge (tgt := 43) E dM_foldName_17 (by decide) (fun c17 => ?_) (fun c17 => ?_)
    · have h := (if_pos c17).symm.trans h
      exact wm_vret E hQ rfl (rtM h) (by decide) (by decide) dM_foldName_43
    · have h := (if_neg c17).symm.trans h
      refine wm_aload_n E dM_foldName_20 rfl (j := 0) rfl ?_
      refine wm_gR E fd_M_110 h dM_foldName_21 (fun x21 h => ?_)
      refine wm_iload_n E dM_foldName_24 rfl (j := 2) rfl ?_
      refine wm_aload_n E dM_foldName_25 rfl (j := 0) rfl ?_
      refine wm_gR E fd_M_43 h dM_foldName_26 (fun x26 h => ?_)
      refine wm_bipush (x := 10) E dM_foldName_29 (by decide) ?_
      refine wm_iload_n E dM_foldName_31 rfl (j := 1) rfl ?_
      refine wm_imul E dM_foldName_32 ?_
      refine wm_iload_n E dM_foldName_33 rfl (j := 2) rfl ?_
      refine wm_iadd E dM_foldName_34 ?_
      refine wm_iald (t := 0) E rfl h dM_foldName_35 (fun x35 h => ?_)
      refine wm_iast (t := 0) E rfl h dM_foldName_36 (fun m36 h => ?_)
      refine wm_iinc (lv' := [(2, vI (v2 + 1)), (0, vR v0), (1, vI v1)]) (d := 1) E dM_foldName_37 (by decide) (j := 2) rfl (by decide) rfl ?_
      refine wm_goto (tgt := 12) E dM_foldName_40 (by decide) ?_
      refine wm_pick (lv' := [(0, vR v0), (1, vI v1), (2, vI (v2 + 1))]) [1, 2, 0] rfl ?_
      exact ih v0 v1 (v2 + 1) m36 h
def S_M_foldName (v0 : Option Nat) (v1 : Int32) (μ : Mem) : Option (Unit × Mem) := b1 (gR μ v0 12 12) (fun x2 => b1 (aI μ x2 0 v1) (fun x6 => b1 (pV μ v0 12 38 (vI x6)) (fun m7 => B_M_foldName_12 fu v0 v1 0 m7)))
set_option maxHeartbeats 4000000 in
set_option maxRecDepth 100000 in
theorem C_M_foldName (l : Launch) (G : GG) (v0 : Option Nat) (v1 : Int32) (μ μ' : Mem) (r : Unit) (h : S_M_foldName v0 v1 μ = some (r, μ')) : CT l G y_M_foldName prog_13_method_22_code 3 none 0 0 0 0 μ [vR v0, vI v1] none μ' := by
  refine wm_met (lv := [(0, vR v0), (1, vI v1)]) (by decide +kernel) (Nat.le_of_ble_eq_true rfl) rfl (fun X E hQ hR hI => ?_)
  have h : (b1 (gR μ v0 12 12) (fun x2 => b1 (aI μ x2 0 v1) (fun x6 => b1 (pV μ v0 12 38 (vI x6)) (fun m7 => B_M_foldName_12 fu v0 v1 0 m7)))) = some (r, μ') := h
  refine wm_aload_n E dM_foldName_0 rfl (j := 0) rfl ?_
  refine wm_aload_n E dM_foldName_1 rfl (j := 0) rfl ?_
  refine wm_gR E fd_M_40 h dM_foldName_2 (fun x2 h => ?_)
  refine wm_iload_n E dM_foldName_5 rfl (j := 1) rfl ?_
  refine wm_iald (t := 0) E rfl h dM_foldName_6 (fun x6 h => ?_)
  refine wm_pI E fp_M_179 (fun q => by cases q) h dM_foldName_7 (fun m7 h => ?_)
  refine wm_iconst (x := 0) E dM_foldName_10 (by decide) ?_
  refine wm_istore_n (lv' := [(2, vI 0), (0, vR v0), (1, vI v1)]) E dM_foldName_11 rfl (by decide) rfl ?_
  refine wm_pick (lv' := [(0, vR v0), (1, vI v1), (2, vI 0)]) [1, 2, 0] rfl ?_
  exact w_M_foldName_12 E hQ hR hI fu v0 v1 0 m7 h
