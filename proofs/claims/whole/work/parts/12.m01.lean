def R_M_turn (v0 : Int32) (v1 : Int32) (v2 : Int32) (v3 : Int32) (v4 : Int32) (v5 : Int32) : Option Int32 := some (((v2 - v0) * (v5 - v1)) - ((v3 - v1) * (v4 - v0)))
set_option maxHeartbeats 4000000 in
set_option maxRecDepth 100000 in
theorem RC_M_turn (l : Launch) (G : GG) (v0 : Int32) (v1 : Int32) (v2 : Int32) (v3 : Int32) (v4 : Int32) (v5 : Int32) (μ : Mem) (r : Int32) (h : R_M_turn v0 v1 v2 v3 v4 v5 = some r) : CT l G y_M_turn prog_13_method_15_code 6 (some .int) 0 0 0 0 μ [vI v0, vI v1, vI v2, vI v3, vI v4, vI v5] (some (vI r)) μ := by
  refine wm_met (lv := [(0, vI v0), (1, vI v1), (2, vI v2), (3, vI v3), (4, vI v4), (5, vI v5)]) (by decide +kernel) (Nat.le_of_ble_eq_true rfl) rfl (fun X E hQ hR hI => ?_)
  have h : (some (((v2 - v0) * (v5 - v1)) - ((v3 - v1) * (v4 - v0)))) = some r := h
  refine wm_iload_n E dM_turn_0 rfl (j := 2) rfl ?_
  refine wm_iload_n E dM_turn_1 rfl (j := 0) rfl ?_
  refine wm_isub E dM_turn_2 ?_
  refine wm_iload E dM_turn_3 (j := 5) rfl ?_
  refine wm_iload_n E dM_turn_5 rfl (j := 1) rfl ?_
  refine wm_isub E dM_turn_6 ?_
  refine wm_imul E dM_turn_7 ?_
  refine wm_iload_n E dM_turn_8 rfl (j := 3) rfl ?_
  refine wm_iload_n E dM_turn_9 rfl (j := 1) rfl ?_
  refine wm_isub E dM_turn_10 ?_
  refine wm_iload E dM_turn_11 (j := 4) rfl ?_
  refine wm_iload_n E dM_turn_13 rfl (j := 0) rfl ?_
  refine wm_isub E dM_turn_14 ?_
  refine wm_imul E dM_turn_15 ?_
  refine wm_isub E dM_turn_16 ?_
  exact wm_iret (rt := .int) E hQ (rqI0 h) rfl (by decide) (by decide) dM_turn_17
def RB_M_liesIn_241 (ρ : RS) (k6 : Int32 → Int32 → Int32 → Int32 → Int32 → Option Int32) (v1 : Int32) (v2 : Int32) (v3 : Int32) (v4 : Int32) (v5 : Int32) : Option Int32 := k6 v1 v2 v3 v4 (v5 + 1)
set_option maxHeartbeats 4000000 in
set_option maxRecDepth 100000 in
theorem rw_M_liesIn_241 {X : CX} (E : EV X prog_13_method_16_code 14 "PlaceFinderModel" (some .boolean)) {μ0 μ : Mem} {b : Nat} {r : Int32} {ρ : RS} (hQ : RQ X 0 0 μ0 (some (vI r)) (ov b ρ μ)) (hR : xR X = { frames := 1, cells := 0, slots := 0, locals := 25 }) (hI : X.2.2.2.2.2.2.2.2.2.2.2.1.name = "liesIn") (k6 : Int32 → Int32 → Int32 → Int32 → Int32 → Option Int32) (hk6 : ∀ (v1 : Int32) (v2 : Int32) (v3 : Int32) (v4 : Int32) (v5 : Int32), k6 v1 v2 v3 v4 v5 = some r → WM X 14 6 [(0, vR (some b)), (1, vI v1), (2, vI v2), (3, vI v3), (4, vI v4), (5, vI v5)] [] 0 0 (ov b ρ μ)) (v1 : Int32) (v2 : Int32) (v3 : Int32) (v4 : Int32) (v5 : Int32) (h : RB_M_liesIn_241 ρ k6 v1 v2 v3 v4 v5 = some r) : WM X 14 241 [(0, vR (some b)), (1, vI v1), (2, vI v2), (3, vI v3), (4, vI v4), (5, vI v5)] [] 0 0 (ov b ρ μ) := by
  have h : (k6 v1 v2 v3 v4 (v5 + 1)) = some r := h
  refine wm_iinc (lv' := [(5, vI (v5 + 1)), (0, vR (some b)), (1, vI v1), (2, vI v2), (3, vI v3), (4, vI v4)]) (d := 1) E dM_liesIn_241 (by decide) (j := 5) rfl (by decide) rfl ?_
  refine wm_goto (tgt := 6) E dM_liesIn_244 (by decide) ?_
  refine wm_pick (lv' := [(0, vR (some b)), (1, vI v1), (2, vI v2), (3, vI v3), (4, vI v4), (5, vI (v5 + 1))]) [1, 2, 3, 4, 5, 0] rfl ?_
  exact hk6 v1 v2 v3 v4 (v5 + 1) h
def RB_M_liesIn_239 (ρ : RS) (k6 : Int32 → Int32 → Int32 → Int32 → Int32 → Option Int32) (v1 : Int32) (v2 : Int32) (v3 : Int32) (v5 : Int32) (s0 : Int32) : Option Int32 := RB_M_liesIn_241 ρ k6 v1 v2 v3 s0 v5
set_option maxHeartbeats 4000000 in
set_option maxRecDepth 100000 in
theorem rw_M_liesIn_239 {X : CX} (E : EV X prog_13_method_16_code 14 "PlaceFinderModel" (some .boolean)) {μ0 μ : Mem} {b : Nat} {r : Int32} {ρ : RS} (hQ : RQ X 0 0 μ0 (some (vI r)) (ov b ρ μ)) (hR : xR X = { frames := 1, cells := 0, slots := 0, locals := 25 }) (hI : X.2.2.2.2.2.2.2.2.2.2.2.1.name = "liesIn") (k6 : Int32 → Int32 → Int32 → Int32 → Int32 → Option Int32) (hk6 : ∀ (v1 : Int32) (v2 : Int32) (v3 : Int32) (v4 : Int32) (v5 : Int32), k6 v1 v2 v3 v4 v5 = some r → WM X 14 6 [(0, vR (some b)), (1, vI v1), (2, vI v2), (3, vI v3), (4, vI v4), (5, vI v5)] [] 0 0 (ov b ρ μ)) (v1 : Int32) (v2 : Int32) (v3 : Int32) (v5 : Int32) (s0 : Int32) (h : RB_M_liesIn_239 ρ k6 v1 v2 v3 v5 s0 = some r) : WM X 14 239 [(0, vR (some b)), (1, vI v1), (2, vI v2), (3, vI v3), (5, vI v5)] [vI s0] 0 0 (ov b ρ μ) := by
  have h : (RB_M_liesIn_241 ρ k6 v1 v2 v3 s0 v5) = some r := h
  refine wm_istore (lv' := [(4, vI s0), (0, vR (some b)), (1, vI v1), (2, vI v2), (3, vI v3), (5, vI v5)]) E dM_liesIn_239 (by decide) rfl ?_
  refine wm_pick (lv' := [(0, vR (some b)), (1, vI v1), (2, vI v2), (3, vI v3), (4, vI s0), (5, vI v5)]) [1, 2, 3, 4, 0, 5] rfl ?_
  exact rw_M_liesIn_241 E hQ hR hI k6 hk6 v1 v2 v3 s0 v5 h
def RB_M_liesIn_229 (ρ : RS) (k6 : Int32 → Int32 → Int32 → Int32 → Int32 → Option Int32) (v1 : Int32) (v2 : Int32) (v3 : Int32) (v4 : Int32) (v5 : Int32) : Option Int32 := if v4 = 0 then RB_M_liesIn_239 ρ k6 v1 v2 v3 v5 1 else RB_M_liesIn_239 ρ k6 v1 v2 v3 v5 0
set_option maxHeartbeats 4000000 in
set_option maxRecDepth 100000 in
theorem rw_M_liesIn_229 {X : CX} (E : EV X prog_13_method_16_code 14 "PlaceFinderModel" (some .boolean)) {μ0 μ : Mem} {b : Nat} {r : Int32} {ρ : RS} (hQ : RQ X 0 0 μ0 (some (vI r)) (ov b ρ μ)) (hR : xR X = { frames := 1, cells := 0, slots := 0, locals := 25 }) (hI : X.2.2.2.2.2.2.2.2.2.2.2.1.name = "liesIn") (k6 : Int32 → Int32 → Int32 → Int32 → Int32 → Option Int32) (hk6 : ∀ (v1 : Int32) (v2 : Int32) (v3 : Int32) (v4 : Int32) (v5 : Int32), k6 v1 v2 v3 v4 v5 = some r → WM X 14 6 [(0, vR (some b)), (1, vI v1), (2, vI v2), (3, vI v3), (4, vI v4), (5, vI v5)] [] 0 0 (ov b ρ μ)) (v1 : Int32) (v2 : Int32) (v3 : Int32) (v4 : Int32) (v5 : Int32) (h : RB_M_liesIn_229 ρ k6 v1 v2 v3 v4 v5 = some r) : WM X 14 229 [(0, vR (some b)), (1, vI v1), (2, vI v2), (3, vI v3), (4, vI v4), (5, vI v5)] [] 0 0 (ov b ρ μ) := by
  have h : (if v4 = 0 then RB_M_liesIn_239 ρ k6 v1 v2 v3 v5 1 else RB_M_liesIn_239 ρ k6 v1 v2 v3 v5 0) = some r := h
  refine wm_iload E dM_liesIn_229 (j := 4) rfl ?_
  refine wm_if_ne (tgt := 238) E dM_liesIn_231 (by decide) (fun c231 => ?_) (fun c231 => ?_)
  · have h := (if_neg c231).symm.trans h
    refine wm_iconst (x := 0) E dM_liesIn_238 (by decide) ?_
    refine wm_pick (lv' := [(0, vR (some b)), (1, vI v1), (2, vI v2), (3, vI v3), (5, vI v5)]) [0, 1, 2, 3, 5] rfl ?_
    exact rw_M_liesIn_239 E hQ hR hI k6 hk6 v1 v2 v3 v5 0 h
  · have h := (if_pos c231).symm.trans h
    refine wm_iconst (x := 1) E dM_liesIn_234 (by decide) ?_
    refine wm_goto (tgt := 239) E dM_liesIn_235 (by decide) ?_
    refine wm_pick (lv' := [(0, vR (some b)), (1, vI v1), (2, vI v2), (3, vI v3), (5, vI v5)]) [0, 1, 2, 3, 5] rfl ?_
    exact rw_M_liesIn_239 E hQ hR hI k6 hk6 v1 v2 v3 v5 1 h
def RB_M_liesIn_206 (ρ : RS) (k6 : Int32 → Int32 → Int32 → Int32 → Int32 → Option Int32) (v1 : Int32) (v2 : Int32) (v3 : Int32) (v4 : Int32) (v5 : Int32) (v9 : Int32) (v11 : Int32) (v12 : Int32) (s0 : Int32) (s1 : Int32) : Option Int32 := if s0 = s1 then RB_M_liesIn_241 ρ k6 v1 v2 v3 v4 v5 else if v11 ≤ v9 then if 0 ≤ v12 then RB_M_liesIn_241 ρ k6 v1 v2 v3 v4 v5 else RB_M_liesIn_229 ρ k6 v1 v2 v3 v4 v5 else if v12 ≤ 0 then RB_M_liesIn_241 ρ k6 v1 v2 v3 v4 v5 else RB_M_liesIn_229 ρ k6 v1 v2 v3 v4 v5
set_option maxHeartbeats 4000000 in
set_option maxRecDepth 100000 in
theorem rw_M_liesIn_206 {X : CX} (E : EV X prog_13_method_16_code 14 "PlaceFinderModel" (some .boolean)) {μ0 μ : Mem} {b : Nat} {r : Int32} {ρ : RS} (hQ : RQ X 0 0 μ0 (some (vI r)) (ov b ρ μ)) (hR : xR X = { frames := 1, cells := 0, slots := 0, locals := 25 }) (hI : X.2.2.2.2.2.2.2.2.2.2.2.1.name = "liesIn") (k6 : Int32 → Int32 → Int32 → Int32 → Int32 → Option Int32) (hk6 : ∀ (v1 : Int32) (v2 : Int32) (v3 : Int32) (v4 : Int32) (v5 : Int32), k6 v1 v2 v3 v4 v5 = some r → WM X 14 6 [(0, vR (some b)), (1, vI v1), (2, vI v2), (3, vI v3), (4, vI v4), (5, vI v5)] [] 0 0 (ov b ρ μ)) (v1 : Int32) (v2 : Int32) (v3 : Int32) (v4 : Int32) (v5 : Int32) (v9 : Int32) (v11 : Int32) (v12 : Int32) (s0 : Int32) (s1 : Int32) (h : RB_M_liesIn_206 ρ k6 v1 v2 v3 v4 v5 v9 v11 v12 s0 s1 = some r) : WM X 14 206 [(0, vR (some b)), (1, vI v1), (2, vI v2), (3, vI v3), (4, vI v4), (5, vI v5), (9, vI v9), (11, vI v11), (12, vI v12)] [vI s1, vI s0] 0 0 (ov b ρ μ) := by
  have h : (if s0 = s1 then RB_M_liesIn_241 ρ k6 v1 v2 v3 v4 v5 else if v11 ≤ v9 then if 0 ≤ v12 then RB_M_liesIn_241 ρ k6 v1 v2 v3 v4 v5 else RB_M_liesIn_229 ρ k6 v1 v2 v3 v4 v5 else if v12 ≤ 0 then RB_M_liesIn_241 ρ k6 v1 v2 v3 v4 v5 else RB_M_liesIn_229 ρ k6 v1 v2 v3 v4 v5) = some r := h
  refine wm_icmp_eq (tgt := 241) E dM_liesIn_206 (by decide) (fun c206 => ?_) (fun c206 => ?_)
  · have h := (if_pos c206).symm.trans h
    refine wm_pick (lv' := [(0, vR (some b)), (1, vI v1), (2, vI v2), (3, vI v3), (4, vI v4), (5, vI v5)]) [0, 1, 2, 3, 4, 5] rfl ?_
    exact rw_M_liesIn_241 E hQ hR hI k6 hk6 v1 v2 v3 v4 v5 h
  · have h := (if_neg c206).symm.trans h
    refine wm_iload E dM_liesIn_209 (j := 7) rfl ?_
    refine wm_iload E dM_liesIn_211 (j := 6) rfl ?_
    refine wm_icmp_le (tgt := 224) E dM_liesIn_213 (by decide) (fun c213 => ?_) (fun c213 => ?_)
    · have h := (if_pos c213).symm.trans h
      refine wm_iload E dM_liesIn_224 (j := 8) rfl ?_
      refine wm_if_ge (tgt := 241) E dM_liesIn_226 (by decide) (fun c226 => ?_) (fun c226 => ?_)
      · have h := (if_pos c226).symm.trans h
        refine wm_pick (lv' := [(0, vR (some b)), (1, vI v1), (2, vI v2), (3, vI v3), (4, vI v4), (5, vI v5)]) [0, 1, 2, 3, 4, 5] rfl ?_
        exact rw_M_liesIn_241 E hQ hR hI k6 hk6 v1 v2 v3 v4 v5 h
      · have h := (if_neg c226).symm.trans h
        refine wm_pick (lv' := [(0, vR (some b)), (1, vI v1), (2, vI v2), (3, vI v3), (4, vI v4), (5, vI v5)]) [0, 1, 2, 3, 4, 5] rfl ?_
        exact rw_M_liesIn_229 E hQ hR hI k6 hk6 v1 v2 v3 v4 v5 h
    · have h := (if_neg c213).symm.trans h
      refine wm_iload E dM_liesIn_216 (j := 8) rfl ?_
      refine wm_if_le (tgt := 241) E dM_liesIn_218 (by decide) (fun c218 => ?_) (fun c218 => ?_)
      · have h := (if_pos c218).symm.trans h
        refine wm_pick (lv' := [(0, vR (some b)), (1, vI v1), (2, vI v2), (3, vI v3), (4, vI v4), (5, vI v5)]) [0, 1, 2, 3, 4, 5] rfl ?_
        exact rw_M_liesIn_241 E hQ hR hI k6 hk6 v1 v2 v3 v4 v5 h
      · have h := (if_neg c218).symm.trans h
        refine wm_goto (tgt := 229) E dM_liesIn_221 (by decide) ?_
        refine wm_pick (lv' := [(0, vR (some b)), (1, vI v1), (2, vI v2), (3, vI v3), (4, vI v4), (5, vI v5)]) [0, 1, 2, 3, 4, 5] rfl ?_
        exact rw_M_liesIn_229 E hQ hR hI k6 hk6 v1 v2 v3 v4 v5 h
def RB_M_liesIn_195 (ρ : RS) (k6 : Int32 → Int32 → Int32 → Int32 → Int32 → Option Int32) (v1 : Int32) (v2 : Int32) (v3 : Int32) (v4 : Int32) (v5 : Int32) (v9 : Int32) (v11 : Int32) (v12 : Int32) (s0 : Int32) : Option Int32 := if v11 ≤ v3 then RB_M_liesIn_206 ρ k6 v1 v2 v3 v4 v5 v9 v11 v12 s0 0 else RB_M_liesIn_206 ρ k6 v1 v2 v3 v4 v5 v9 v11 v12 s0 1
set_option maxHeartbeats 4000000 in
set_option maxRecDepth 100000 in
theorem rw_M_liesIn_195 {X : CX} (E : EV X prog_13_method_16_code 14 "PlaceFinderModel" (some .boolean)) {μ0 μ : Mem} {b : Nat} {r : Int32} {ρ : RS} (hQ : RQ X 0 0 μ0 (some (vI r)) (ov b ρ μ)) (hR : xR X = { frames := 1, cells := 0, slots := 0, locals := 25 }) (hI : X.2.2.2.2.2.2.2.2.2.2.2.1.name = "liesIn") (k6 : Int32 → Int32 → Int32 → Int32 → Int32 → Option Int32) (hk6 : ∀ (v1 : Int32) (v2 : Int32) (v3 : Int32) (v4 : Int32) (v5 : Int32), k6 v1 v2 v3 v4 v5 = some r → WM X 14 6 [(0, vR (some b)), (1, vI v1), (2, vI v2), (3, vI v3), (4, vI v4), (5, vI v5)] [] 0 0 (ov b ρ μ)) (v1 : Int32) (v2 : Int32) (v3 : Int32) (v4 : Int32) (v5 : Int32) (v9 : Int32) (v11 : Int32) (v12 : Int32) (s0 : Int32) (h : RB_M_liesIn_195 ρ k6 v1 v2 v3 v4 v5 v9 v11 v12 s0 = some r) : WM X 14 195 [(0, vR (some b)), (1, vI v1), (2, vI v2), (3, vI v3), (4, vI v4), (5, vI v5), (9, vI v9), (11, vI v11), (12, vI v12)] [vI s0] 0 0 (ov b ρ μ) := by
  have h : (if v11 ≤ v3 then RB_M_liesIn_206 ρ k6 v1 v2 v3 v4 v5 v9 v11 v12 s0 0 else RB_M_liesIn_206 ρ k6 v1 v2 v3 v4 v5 v9 v11 v12 s0 1) = some r := h
  refine wm_iload E dM_liesIn_195 (j := 7) rfl ?_
  refine wm_iload_n E dM_liesIn_197 rfl (j := 3) rfl ?_
  refine wm_icmp_le (tgt := 205) E dM_liesIn_198 (by decide) (fun c198 => ?_) (fun c198 => ?_)
  · have h := (if_pos c198).symm.trans h
    refine wm_iconst (x := 0) E dM_liesIn_205 (by decide) ?_
    refine wm_pick (lv' := [(0, vR (some b)), (1, vI v1), (2, vI v2), (3, vI v3), (4, vI v4), (5, vI v5), (9, vI v9), (11, vI v11), (12, vI v12)]) [0, 1, 2, 3, 4, 5, 6, 7, 8] rfl ?_
    exact rw_M_liesIn_206 E hQ hR hI k6 hk6 v1 v2 v3 v4 v5 v9 v11 v12 s0 0 h
  · have h := (if_neg c198).symm.trans h
    refine wm_iconst (x := 1) E dM_liesIn_201 (by decide) ?_
    refine wm_goto (tgt := 206) E dM_liesIn_202 (by decide) ?_
    refine wm_pick (lv' := [(0, vR (some b)), (1, vI v1), (2, vI v2), (3, vI v3), (4, vI v4), (5, vI v5), (9, vI v9), (11, vI v11), (12, vI v12)]) [0, 1, 2, 3, 4, 5, 6, 7, 8] rfl ?_
    exact rw_M_liesIn_206 E hQ hR hI k6 hk6 v1 v2 v3 v4 v5 v9 v11 v12 s0 1 h
def RB_M_liesIn_184 (ρ : RS) (k6 : Int32 → Int32 → Int32 → Int32 → Int32 → Option Int32) (v1 : Int32) (v2 : Int32) (v3 : Int32) (v4 : Int32) (v5 : Int32) (v9 : Int32) (v11 : Int32) (v12 : Int32) : Option Int32 := if v9 ≤ v3 then RB_M_liesIn_195 ρ k6 v1 v2 v3 v4 v5 v9 v11 v12 0 else RB_M_liesIn_195 ρ k6 v1 v2 v3 v4 v5 v9 v11 v12 1
set_option maxHeartbeats 4000000 in
set_option maxRecDepth 100000 in
theorem rw_M_liesIn_184 {X : CX} (E : EV X prog_13_method_16_code 14 "PlaceFinderModel" (some .boolean)) {μ0 μ : Mem} {b : Nat} {r : Int32} {ρ : RS} (hQ : RQ X 0 0 μ0 (some (vI r)) (ov b ρ μ)) (hR : xR X = { frames := 1, cells := 0, slots := 0, locals := 25 }) (hI : X.2.2.2.2.2.2.2.2.2.2.2.1.name = "liesIn") (k6 : Int32 → Int32 → Int32 → Int32 → Int32 → Option Int32) (hk6 : ∀ (v1 : Int32) (v2 : Int32) (v3 : Int32) (v4 : Int32) (v5 : Int32), k6 v1 v2 v3 v4 v5 = some r → WM X 14 6 [(0, vR (some b)), (1, vI v1), (2, vI v2), (3, vI v3), (4, vI v4), (5, vI v5)] [] 0 0 (ov b ρ μ)) (v1 : Int32) (v2 : Int32) (v3 : Int32) (v4 : Int32) (v5 : Int32) (v9 : Int32) (v11 : Int32) (v12 : Int32) (h : RB_M_liesIn_184 ρ k6 v1 v2 v3 v4 v5 v9 v11 v12 = some r) : WM X 14 184 [(0, vR (some b)), (1, vI v1), (2, vI v2), (3, vI v3), (4, vI v4), (5, vI v5), (9, vI v9), (11, vI v11), (12, vI v12)] [] 0 0 (ov b ρ μ) := by
  have h : (if v9 ≤ v3 then RB_M_liesIn_195 ρ k6 v1 v2 v3 v4 v5 v9 v11 v12 0 else RB_M_liesIn_195 ρ k6 v1 v2 v3 v4 v5 v9 v11 v12 1) = some r := h
  refine wm_iload E dM_liesIn_184 (j := 6) rfl ?_
  refine wm_iload_n E dM_liesIn_186 rfl (j := 3) rfl ?_
  refine wm_icmp_le (tgt := 194) E dM_liesIn_187 (by decide) (fun c187 => ?_) (fun c187 => ?_)
  · have h := (if_pos c187).symm.trans h
    refine wm_iconst (x := 0) E dM_liesIn_194 (by decide) ?_
    refine wm_pick (lv' := [(0, vR (some b)), (1, vI v1), (2, vI v2), (3, vI v3), (4, vI v4), (5, vI v5), (9, vI v9), (11, vI v11), (12, vI v12)]) [0, 1, 2, 3, 4, 5, 6, 7, 8] rfl ?_
    exact rw_M_liesIn_195 E hQ hR hI k6 hk6 v1 v2 v3 v4 v5 v9 v11 v12 0 h
  · have h := (if_neg c187).symm.trans h
    refine wm_iconst (x := 1) E dM_liesIn_190 (by decide) ?_
    refine wm_goto (tgt := 195) E dM_liesIn_191 (by decide) ?_
    refine wm_pick (lv' := [(0, vR (some b)), (1, vI v1), (2, vI v2), (3, vI v3), (4, vI v4), (5, vI v5), (9, vI v9), (11, vI v11), (12, vI v12)]) [0, 1, 2, 3, 4, 5, 6, 7, 8] rfl ?_
    exact rw_M_liesIn_195 E hQ hR hI k6 hk6 v1 v2 v3 v4 v5 v9 v11 v12 1 h
def RB_M_liesIn_170 (ρ : RS) (k6 : Int32 → Int32 → Int32 → Int32 → Int32 → Option Int32) (v1 : Int32) (v2 : Int32) (v3 : Int32) (v4 : Int32) (v5 : Int32) (v9 : Int32) (v11 : Int32) (v12 : Int32) (s0 : Int32) : Option Int32 := if v12 = 0 then if s0 = 0 then RB_M_liesIn_184 ρ k6 v1 v2 v3 v4 v5 v9 v11 v12 else gd (¬ okZ 1 = true) (some (1)) else RB_M_liesIn_184 ρ k6 v1 v2 v3 v4 v5 v9 v11 v12
set_option maxHeartbeats 4000000 in
set_option maxRecDepth 100000 in
theorem rw_M_liesIn_170 {X : CX} (E : EV X prog_13_method_16_code 14 "PlaceFinderModel" (some .boolean)) {μ0 μ : Mem} {b : Nat} {r : Int32} {ρ : RS} (hQ : RQ X 0 0 μ0 (some (vI r)) (ov b ρ μ)) (hR : xR X = { frames := 1, cells := 0, slots := 0, locals := 25 }) (hI : X.2.2.2.2.2.2.2.2.2.2.2.1.name = "liesIn") (k6 : Int32 → Int32 → Int32 → Int32 → Int32 → Option Int32) (hk6 : ∀ (v1 : Int32) (v2 : Int32) (v3 : Int32) (v4 : Int32) (v5 : Int32), k6 v1 v2 v3 v4 v5 = some r → WM X 14 6 [(0, vR (some b)), (1, vI v1), (2, vI v2), (3, vI v3), (4, vI v4), (5, vI v5)] [] 0 0 (ov b ρ μ)) (v1 : Int32) (v2 : Int32) (v3 : Int32) (v4 : Int32) (v5 : Int32) (v9 : Int32) (v11 : Int32) (v12 : Int32) (s0 : Int32) (h : RB_M_liesIn_170 ρ k6 v1 v2 v3 v4 v5 v9 v11 v12 s0 = some r) : WM X 14 170 [(0, vR (some b)), (1, vI v1), (2, vI v2), (3, vI v3), (4, vI v4), (5, vI v5), (9, vI v9), (11, vI v11), (12, vI v12)] [vI s0] 0 0 (ov b ρ μ) := by
  have h : (if v12 = 0 then if s0 = 0 then RB_M_liesIn_184 ρ k6 v1 v2 v3 v4 v5 v9 v11 v12 else gd (¬ okZ 1 = true) (some (1)) else RB_M_liesIn_184 ρ k6 v1 v2 v3 v4 v5 v9 v11 v12) = some r := h
  refine wm_istore (lv' := [(13, vI s0), (0, vR (some b)), (1, vI v1), (2, vI v2), (3, vI v3), (4, vI v4), (5, vI v5), (9, vI v9), (11, vI v11), (12, vI v12)]) E dM_liesIn_170 (by decide) rfl ?_
  refine wm_iload E dM_liesIn_172 (j := 9) rfl ?_
  refine wm_if_ne (tgt := 184) E dM_liesIn_174 (by decide) (fun c174 => ?_) (fun c174 => ?_)
  · have h := (if_neg c174).symm.trans h
    refine wm_pick (lv' := [(0, vR (some b)), (1, vI v1), (2, vI v2), (3, vI v3), (4, vI v4), (5, vI v5), (9, vI v9), (11, vI v11), (12, vI v12)]) [1, 2, 3, 4, 5, 6, 7, 8, 9] rfl ?_
    exact rw_M_liesIn_184 E hQ hR hI k6 hk6 v1 v2 v3 v4 v5 v9 v11 v12 h
  · have h := (if_pos c174).symm.trans h
    refine wm_iload E dM_liesIn_177 (j := 0) rfl ?_
    refine wm_if_eq (tgt := 184) E dM_liesIn_179 (by decide) (fun c179 => ?_) (fun c179 => ?_)
    · have h := (if_pos c179).symm.trans h
      refine wm_pick (lv' := [(0, vR (some b)), (1, vI v1), (2, vI v2), (3, vI v3), (4, vI v4), (5, vI v5), (9, vI v9), (11, vI v11), (12, vI v12)]) [1, 2, 3, 4, 5, 6, 7, 8, 9] rfl ?_
      exact rw_M_liesIn_184 E hQ hR hI k6 hk6 v1 v2 v3 v4 v5 v9 v11 v12 h
    · have h := (if_neg c179).symm.trans h
      refine wm_iconst (x := 1) E dM_liesIn_182 (by decide) ?_
      obtain ⟨hz183, h⟩ := gdS h
      exact wm_zret (rt := .boolean) E hQ (rqI0 h) rfl (okZN hz183) (by decide) (by decide) dM_liesIn_183
def RB_M_liesIn_169 (ρ : RS) (k6 : Int32 → Int32 → Int32 → Int32 → Int32 → Option Int32) (v1 : Int32) (v2 : Int32) (v3 : Int32) (v4 : Int32) (v5 : Int32) (v9 : Int32) (v11 : Int32) (v12 : Int32) : Option Int32 := RB_M_liesIn_170 ρ k6 v1 v2 v3 v4 v5 v9 v11 v12 0
set_option maxHeartbeats 4000000 in
set_option maxRecDepth 100000 in
theorem rw_M_liesIn_169 {X : CX} (E : EV X prog_13_method_16_code 14 "PlaceFinderModel" (some .boolean)) {μ0 μ : Mem} {b : Nat} {r : Int32} {ρ : RS} (hQ : RQ X 0 0 μ0 (some (vI r)) (ov b ρ μ)) (hR : xR X = { frames := 1, cells := 0, slots := 0, locals := 25 }) (hI : X.2.2.2.2.2.2.2.2.2.2.2.1.name = "liesIn") (k6 : Int32 → Int32 → Int32 → Int32 → Int32 → Option Int32) (hk6 : ∀ (v1 : Int32) (v2 : Int32) (v3 : Int32) (v4 : Int32) (v5 : Int32), k6 v1 v2 v3 v4 v5 = some r → WM X 14 6 [(0, vR (some b)), (1, vI v1), (2, vI v2), (3, vI v3), (4, vI v4), (5, vI v5)] [] 0 0 (ov b ρ μ)) (v1 : Int32) (v2 : Int32) (v3 : Int32) (v4 : Int32) (v5 : Int32) (v9 : Int32) (v11 : Int32) (v12 : Int32) (h : RB_M_liesIn_169 ρ k6 v1 v2 v3 v4 v5 v9 v11 v12 = some r) : WM X 14 169 [(0, vR (some b)), (1, vI v1), (2, vI v2), (3, vI v3), (4, vI v4), (5, vI v5), (9, vI v9), (11, vI v11), (12, vI v12)] [] 0 0 (ov b ρ μ) := by
  have h : (RB_M_liesIn_170 ρ k6 v1 v2 v3 v4 v5 v9 v11 v12 0) = some r := h
  refine wm_iconst (x := 0) E dM_liesIn_169 (by decide) ?_
  refine wm_pick (lv' := [(0, vR (some b)), (1, vI v1), (2, vI v2), (3, vI v3), (4, vI v4), (5, vI v5), (9, vI v9), (11, vI v11), (12, vI v12)]) [0, 1, 2, 3, 4, 5, 6, 7, 8] rfl ?_
  exact rw_M_liesIn_170 E hQ hR hI k6 hk6 v1 v2 v3 v4 v5 v9 v11 v12 0 h
def RB_M_liesIn_159 (ρ : RS) (k6 : Int32 → Int32 → Int32 → Int32 → Int32 → Option Int32) (v1 : Int32) (v2 : Int32) (v3 : Int32) (v4 : Int32) (v5 : Int32) (v9 : Int32) (v11 : Int32) (v12 : Int32) (s0 : Int32) (s1 : Int32) (s2 : Int32) : Option Int32 := b1 (R_M_in s0 s1 s2) (fun x159 => if x159 = 0 then RB_M_liesIn_169 ρ k6 v1 v2 v3 v4 v5 v9 v11 v12 else RB_M_liesIn_170 ρ k6 v1 v2 v3 v4 v5 v9 v11 v12 1)
set_option maxHeartbeats 4000000 in
set_option maxRecDepth 100000 in
theorem rw_M_liesIn_159 {X : CX} (E : EV X prog_13_method_16_code 14 "PlaceFinderModel" (some .boolean)) {μ0 μ : Mem} {b : Nat} {r : Int32} {ρ : RS} (hQ : RQ X 0 0 μ0 (some (vI r)) (ov b ρ μ)) (hR : xR X = { frames := 1, cells := 0, slots := 0, locals := 25 }) (hI : X.2.2.2.2.2.2.2.2.2.2.2.1.name = "liesIn") (k6 : Int32 → Int32 → Int32 → Int32 → Int32 → Option Int32) (hk6 : ∀ (v1 : Int32) (v2 : Int32) (v3 : Int32) (v4 : Int32) (v5 : Int32), k6 v1 v2 v3 v4 v5 = some r → WM X 14 6 [(0, vR (some b)), (1, vI v1), (2, vI v2), (3, vI v3), (4, vI v4), (5, vI v5)] [] 0 0 (ov b ρ μ)) (v1 : Int32) (v2 : Int32) (v3 : Int32) (v4 : Int32) (v5 : Int32) (v9 : Int32) (v11 : Int32) (v12 : Int32) (s0 : Int32) (s1 : Int32) (s2 : Int32) (h : RB_M_liesIn_159 ρ k6 v1 v2 v3 v4 v5 v9 v11 v12 s0 s1 s2 = some r) : WM X 14 159 [(0, vR (some b)), (1, vI v1), (2, vI v2), (3, vI v3), (4, vI v4), (5, vI v5), (9, vI v9), (11, vI v11), (12, vI v12)] [vI s2, vI s1, vI s0] 0 0 (ov b ρ μ) := by
  have h : (b1 (R_M_in s0 s1 s2) (fun x159 => if x159 = 0 then RB_M_liesIn_169 ρ k6 v1 v2 v3 v4 v5 v9 v11 v12 else RB_M_liesIn_170 ρ k6 v1 v2 v3 v4 v5 v9 v11 v12 1)) = some r := h
  obtain ⟨x159, hc159, h⟩ := b1S h
  refine wm_cS (As := [vI s0, vI s1, vI s2]) (st := []) E lk_M_139 sc_M_in (RC_M_in (xl X) X.1 s0 s1 s2 _ _ hc159) rfl rfl (by rw [hR]; decide) (by rw [hR]; decide) (Nat.le_of_ble_eq_true rfl) dM_liesIn_159 ?_
  refine wm_if_eq (tgt := 169) E dM_liesIn_162 (by decide) (fun c162 => ?_) (fun c162 => ?_)
  · have h := (if_pos c162).symm.trans h
    refine wm_pick (lv' := [(0, vR (some b)), (1, vI v1), (2, vI v2), (3, vI v3), (4, vI v4), (5, vI v5), (9, vI v9), (11, vI v11), (12, vI v12)]) [0, 1, 2, 3, 4, 5, 6, 7, 8] rfl ?_
    exact rw_M_liesIn_169 E hQ hR hI k6 hk6 v1 v2 v3 v4 v5 v9 v11 v12 h
  · have h := (if_neg c162).symm.trans h
    refine wm_iconst (x := 1) E dM_liesIn_165 (by decide) ?_
    refine wm_goto (tgt := 170) E dM_liesIn_166 (by decide) ?_
    refine wm_pick (lv' := [(0, vR (some b)), (1, vI v1), (2, vI v2), (3, vI v3), (4, vI v4), (5, vI v5), (9, vI v9), (11, vI v11), (12, vI v12)]) [0, 1, 2, 3, 4, 5, 6, 7, 8] rfl ?_
    exact rw_M_liesIn_170 E hQ hR hI k6 hk6 v1 v2 v3 v4 v5 v9 v11 v12 1 h
def RB_M_liesIn_145 (ρ : RS) (k6 : Int32 → Int32 → Int32 → Int32 → Int32 → Option Int32) (v1 : Int32) (v2 : Int32) (v3 : Int32) (v4 : Int32) (v5 : Int32) (v9 : Int32) (v11 : Int32) (v12 : Int32) (s0 : Int32) (s1 : Int32) : Option Int32 := if v11 ≤ v9 then RB_M_liesIn_159 ρ k6 v1 v2 v3 v4 v5 v9 v11 v12 s0 s1 v9 else RB_M_liesIn_159 ρ k6 v1 v2 v3 v4 v5 v9 v11 v12 s0 s1 v11
set_option maxHeartbeats 4000000 in
set_option maxRecDepth 100000 in
theorem rw_M_liesIn_145 {X : CX} (E : EV X prog_13_method_16_code 14 "PlaceFinderModel" (some .boolean)) {μ0 μ : Mem} {b : Nat} {r : Int32} {ρ : RS} (hQ : RQ X 0 0 μ0 (some (vI r)) (ov b ρ μ)) (hR : xR X = { frames := 1, cells := 0, slots := 0, locals := 25 }) (hI : X.2.2.2.2.2.2.2.2.2.2.2.1.name = "liesIn") (k6 : Int32 → Int32 → Int32 → Int32 → Int32 → Option Int32) (hk6 : ∀ (v1 : Int32) (v2 : Int32) (v3 : Int32) (v4 : Int32) (v5 : Int32), k6 v1 v2 v3 v4 v5 = some r → WM X 14 6 [(0, vR (some b)), (1, vI v1), (2, vI v2), (3, vI v3), (4, vI v4), (5, vI v5)] [] 0 0 (ov b ρ μ)) (v1 : Int32) (v2 : Int32) (v3 : Int32) (v4 : Int32) (v5 : Int32) (v9 : Int32) (v11 : Int32) (v12 : Int32) (s0 : Int32) (s1 : Int32) (h : RB_M_liesIn_145 ρ k6 v1 v2 v3 v4 v5 v9 v11 v12 s0 s1 = some r) : WM X 14 145 [(0, vR (some b)), (1, vI v1), (2, vI v2), (3, vI v3), (4, vI v4), (5, vI v5), (9, vI v9), (11, vI v11), (12, vI v12)] [vI s1, vI s0] 0 0 (ov b ρ μ) := by
  have h : (if v11 ≤ v9 then RB_M_liesIn_159 ρ k6 v1 v2 v3 v4 v5 v9 v11 v12 s0 s1 v9 else RB_M_liesIn_159 ρ k6 v1 v2 v3 v4 v5 v9 v11 v12 s0 s1 v11) = some r := h
  refine wm_iload E dM_liesIn_145 (j := 6) rfl ?_
  refine wm_iload E dM_liesIn_147 (j := 7) rfl ?_
  refine wm_icmp_ge (tgt := 157) E dM_liesIn_149 (by decide) (fun c149 => ?_) (fun c149 => ?_)
  · have h := (if_pos c149).symm.trans h
    refine wm_iload E dM_liesIn_157 (j := 6) rfl ?_
    refine wm_pick (lv' := [(0, vR (some b)), (1, vI v1), (2, vI v2), (3, vI v3), (4, vI v4), (5, vI v5), (9, vI v9), (11, vI v11), (12, vI v12)]) [0, 1, 2, 3, 4, 5, 6, 7, 8] rfl ?_
    exact rw_M_liesIn_159 E hQ hR hI k6 hk6 v1 v2 v3 v4 v5 v9 v11 v12 s0 s1 v9 h
  · have h := (if_neg c149).symm.trans h
    refine wm_iload E dM_liesIn_152 (j := 7) rfl ?_
    refine wm_goto (tgt := 159) E dM_liesIn_154 (by decide) ?_
    refine wm_pick (lv' := [(0, vR (some b)), (1, vI v1), (2, vI v2), (3, vI v3), (4, vI v4), (5, vI v5), (9, vI v9), (11, vI v11), (12, vI v12)]) [0, 1, 2, 3, 4, 5, 6, 7, 8] rfl ?_
    exact rw_M_liesIn_159 E hQ hR hI k6 hk6 v1 v2 v3 v4 v5 v9 v11 v12 s0 s1 v11 h
def RB_M_liesIn_124 (ρ : RS) (k6 : Int32 → Int32 → Int32 → Int32 → Int32 → Option Int32) (v1 : Int32) (v2 : Int32) (v3 : Int32) (v4 : Int32) (v5 : Int32) (v9 : Int32) (v11 : Int32) (v12 : Int32) (s0 : Int32) (s1 : Int32) (s2 : Int32) : Option Int32 := b1 (R_M_in s0 s1 s2) (fun x124 => if x124 = 0 then RB_M_liesIn_169 ρ k6 v1 v2 v3 v4 v5 v9 v11 v12 else if v11 ≤ v9 then RB_M_liesIn_145 ρ k6 v1 v2 v3 v4 v5 v9 v11 v12 v3 v11 else RB_M_liesIn_145 ρ k6 v1 v2 v3 v4 v5 v9 v11 v12 v3 v9)
set_option maxHeartbeats 4000000 in
set_option maxRecDepth 100000 in
theorem rw_M_liesIn_124 {X : CX} (E : EV X prog_13_method_16_code 14 "PlaceFinderModel" (some .boolean)) {μ0 μ : Mem} {b : Nat} {r : Int32} {ρ : RS} (hQ : RQ X 0 0 μ0 (some (vI r)) (ov b ρ μ)) (hR : xR X = { frames := 1, cells := 0, slots := 0, locals := 25 }) (hI : X.2.2.2.2.2.2.2.2.2.2.2.1.name = "liesIn") (k6 : Int32 → Int32 → Int32 → Int32 → Int32 → Option Int32) (hk6 : ∀ (v1 : Int32) (v2 : Int32) (v3 : Int32) (v4 : Int32) (v5 : Int32), k6 v1 v2 v3 v4 v5 = some r → WM X 14 6 [(0, vR (some b)), (1, vI v1), (2, vI v2), (3, vI v3), (4, vI v4), (5, vI v5)] [] 0 0 (ov b ρ μ)) (v1 : Int32) (v2 : Int32) (v3 : Int32) (v4 : Int32) (v5 : Int32) (v9 : Int32) (v11 : Int32) (v12 : Int32) (s0 : Int32) (s1 : Int32) (s2 : Int32) (h : RB_M_liesIn_124 ρ k6 v1 v2 v3 v4 v5 v9 v11 v12 s0 s1 s2 = some r) : WM X 14 124 [(0, vR (some b)), (1, vI v1), (2, vI v2), (3, vI v3), (4, vI v4), (5, vI v5), (9, vI v9), (11, vI v11), (12, vI v12)] [vI s2, vI s1, vI s0] 0 0 (ov b ρ μ) := by
  have h : (b1 (R_M_in s0 s1 s2) (fun x124 => if x124 = 0 then RB_M_liesIn_169 ρ k6 v1 v2 v3 v4 v5 v9 v11 v12 else if v11 ≤ v9 then RB_M_liesIn_145 ρ k6 v1 v2 v3 v4 v5 v9 v11 v12 v3 v11 else RB_M_liesIn_145 ρ k6 v1 v2 v3 v4 v5 v9 v11 v12 v3 v9)) = some r := h
  obtain ⟨x124, hc124, h⟩ := b1S h
  refine wm_cS (As := [vI s0, vI s1, vI s2]) (st := []) E lk_M_139 sc_M_in (RC_M_in (xl X) X.1 s0 s1 s2 _ _ hc124) rfl rfl (by rw [hR]; decide) (by rw [hR]; decide) (Nat.le_of_ble_eq_true rfl) dM_liesIn_124 ?_
  refine wm_if_eq (tgt := 169) E dM_liesIn_127 (by decide) (fun c127 => ?_) (fun c127 => ?_)
  · have h := (if_pos c127).symm.trans h
    refine wm_pick (lv' := [(0, vR (some b)), (1, vI v1), (2, vI v2), (3, vI v3), (4, vI v4), (5, vI v5), (9, vI v9), (11, vI v11), (12, vI v12)]) [0, 1, 2, 3, 4, 5, 6, 7, 8] rfl ?_
    exact rw_M_liesIn_169 E hQ hR hI k6 hk6 v1 v2 v3 v4 v5 v9 v11 v12 h
  · have h := (if_neg c127).symm.trans h
    refine wm_iload_n E dM_liesIn_130 rfl (j := 3) rfl ?_
    refine wm_iload E dM_liesIn_131 (j := 6) rfl ?_
    refine wm_iload E dM_liesIn_133 (j := 7) rfl ?_
    refine wm_icmp_ge (tgt := 143) E dM_liesIn_135 (by decide) (fun c135 => ?_) (fun c135 => ?_)
    · have h := (if_pos c135).symm.trans h
      refine wm_iload E dM_liesIn_143 (j := 7) rfl ?_
      refine wm_pick (lv' := [(0, vR (some b)), (1, vI v1), (2, vI v2), (3, vI v3), (4, vI v4), (5, vI v5), (9, vI v9), (11, vI v11), (12, vI v12)]) [0, 1, 2, 3, 4, 5, 6, 7, 8] rfl ?_
      exact rw_M_liesIn_145 E hQ hR hI k6 hk6 v1 v2 v3 v4 v5 v9 v11 v12 v3 v11 h
    · have h := (if_neg c135).symm.trans h
      refine wm_iload E dM_liesIn_138 (j := 6) rfl ?_
      refine wm_goto (tgt := 145) E dM_liesIn_140 (by decide) ?_
      refine wm_pick (lv' := [(0, vR (some b)), (1, vI v1), (2, vI v2), (3, vI v3), (4, vI v4), (5, vI v5), (9, vI v9), (11, vI v11), (12, vI v12)]) [0, 1, 2, 3, 4, 5, 6, 7, 8] rfl ?_
      exact rw_M_liesIn_145 E hQ hR hI k6 hk6 v1 v2 v3 v4 v5 v9 v11 v12 v3 v9 h
def RB_M_liesIn_110 (ρ : RS) (k6 : Int32 → Int32 → Int32 → Int32 → Int32 → Option Int32) (v1 : Int32) (v2 : Int32) (v3 : Int32) (v4 : Int32) (v5 : Int32) (v8 : Int32) (v9 : Int32) (v10 : Int32) (v11 : Int32) (v12 : Int32) (s0 : Int32) (s1 : Int32) : Option Int32 := if v10 ≤ v8 then RB_M_liesIn_124 ρ k6 v1 v2 v3 v4 v5 v9 v11 v12 s0 s1 v8 else RB_M_liesIn_124 ρ k6 v1 v2 v3 v4 v5 v9 v11 v12 s0 s1 v10
set_option maxHeartbeats 4000000 in
set_option maxRecDepth 100000 in
theorem rw_M_liesIn_110 {X : CX} (E : EV X prog_13_method_16_code 14 "PlaceFinderModel" (some .boolean)) {μ0 μ : Mem} {b : Nat} {r : Int32} {ρ : RS} (hQ : RQ X 0 0 μ0 (some (vI r)) (ov b ρ μ)) (hR : xR X = { frames := 1, cells := 0, slots := 0, locals := 25 }) (hI : X.2.2.2.2.2.2.2.2.2.2.2.1.name = "liesIn") (k6 : Int32 → Int32 → Int32 → Int32 → Int32 → Option Int32) (hk6 : ∀ (v1 : Int32) (v2 : Int32) (v3 : Int32) (v4 : Int32) (v5 : Int32), k6 v1 v2 v3 v4 v5 = some r → WM X 14 6 [(0, vR (some b)), (1, vI v1), (2, vI v2), (3, vI v3), (4, vI v4), (5, vI v5)] [] 0 0 (ov b ρ μ)) (v1 : Int32) (v2 : Int32) (v3 : Int32) (v4 : Int32) (v5 : Int32) (v8 : Int32) (v9 : Int32) (v10 : Int32) (v11 : Int32) (v12 : Int32) (s0 : Int32) (s1 : Int32) (h : RB_M_liesIn_110 ρ k6 v1 v2 v3 v4 v5 v8 v9 v10 v11 v12 s0 s1 = some r) : WM X 14 110 [(0, vR (some b)), (1, vI v1), (2, vI v2), (3, vI v3), (4, vI v4), (5, vI v5), (8, vI v8), (9, vI v9), (10, vI v10), (11, vI v11), (12, vI v12)] [vI s1, vI s0] 0 0 (ov b ρ μ) := by
  have h : (if v10 ≤ v8 then RB_M_liesIn_124 ρ k6 v1 v2 v3 v4 v5 v9 v11 v12 s0 s1 v8 else RB_M_liesIn_124 ρ k6 v1 v2 v3 v4 v5 v9 v11 v12 s0 s1 v10) = some r := h
  refine wm_iload E dM_liesIn_110 (j := 6) rfl ?_
  refine wm_iload E dM_liesIn_112 (j := 8) rfl ?_
  refine wm_icmp_ge (tgt := 122) E dM_liesIn_114 (by decide) (fun c114 => ?_) (fun c114 => ?_)
  · have h := (if_pos c114).symm.trans h
    refine wm_iload E dM_liesIn_122 (j := 6) rfl ?_
    refine wm_pick (lv' := [(0, vR (some b)), (1, vI v1), (2, vI v2), (3, vI v3), (4, vI v4), (5, vI v5), (9, vI v9), (11, vI v11), (12, vI v12)]) [0, 1, 2, 3, 4, 5, 7, 9, 10] rfl ?_
    exact rw_M_liesIn_124 E hQ hR hI k6 hk6 v1 v2 v3 v4 v5 v9 v11 v12 s0 s1 v8 h
  · have h := (if_neg c114).symm.trans h
    refine wm_iload E dM_liesIn_117 (j := 8) rfl ?_
    refine wm_goto (tgt := 124) E dM_liesIn_119 (by decide) ?_
    refine wm_pick (lv' := [(0, vR (some b)), (1, vI v1), (2, vI v2), (3, vI v3), (4, vI v4), (5, vI v5), (9, vI v9), (11, vI v11), (12, vI v12)]) [0, 1, 2, 3, 4, 5, 7, 9, 10] rfl ?_
    exact rw_M_liesIn_124 E hQ hR hI k6 hk6 v1 v2 v3 v4 v5 v9 v11 v12 s0 s1 v10 h
def RB_M_liesIn_6 (ρ : RS)  : Nat → Int32 → Int32 → Int32 → Int32 → Int32 → Option Int32
  | 0, _, _, _, _, _ => none
  | n + 1, v1, v2, v3, v4, v5 => b1 (rgI ρ 6 90 v1) (fun x13 => if x13 ≤ v5 then gd (¬ okZ v4 = true) (some (v4)) else b0 ((8 * v1) + v5) (fun x24 => b1 (rgI ρ 6 90 v1) (fun x39 => gd (x39 = 0) (b0 ((8 * v1) + ((v5 + 1) - (v5 + 1) / x39 * x39)) (fun x42 => b1 (rgI ρ 7 720 x24) (fun x50 => b1 (rgI ρ 8 720 x24) (fun x59 => b1 (rgI ρ 7 720 x42) (fun x68 => b1 (rgI ρ 8 720 x42) (fun x77 => b1 (R_M_turn x50 x59 x68 x77 v2 v3) (fun x90 => if x68 ≤ x50 then RB_M_liesIn_110 ρ (fun v1 v2 v3 v4 v5 => RB_M_liesIn_6 ρ n v1 v2 v3 v4 v5) v1 v2 v3 v4 v5 x50 x59 x68 x77 x90 v2 x68 else RB_M_liesIn_110 ρ (fun v1 v2 v3 v4 v5 => RB_M_liesIn_6 ρ n v1 v2 v3 v4 v5) v1 v2 v3 v4 v5 x50 x59 x68 x77 x90 v2 x50))))))))))
set_option maxHeartbeats 4000000 in
set_option maxRecDepth 100000 in
theorem rw_M_liesIn_6 {X : CX} (E : EV X prog_13_method_16_code 14 "PlaceFinderModel" (some .boolean)) {μ0 μ : Mem} {b : Nat} {r : Int32} {ρ : RS} (hQ : RQ X 0 0 μ0 (some (vI r)) (ov b ρ μ)) (hR : xR X = { frames := 1, cells := 0, slots := 0, locals := 25 }) (hI : X.2.2.2.2.2.2.2.2.2.2.2.1.name = "liesIn")  (n : Nat) : ∀ (v1 : Int32) (v2 : Int32) (v3 : Int32) (v4 : Int32) (v5 : Int32) (h : RB_M_liesIn_6 ρ  n v1 v2 v3 v4 v5 = some r), WM X 14 6 [(0, vR (some b)), (1, vI v1), (2, vI v2), (3, vI v3), (4, vI v4), (5, vI v5)] [] 0 0 (ov b ρ μ) := by
  induction n with
  | zero => intro v1 v2 v3 v4 v5 h; cases h
  | succ n ih =>
    intro v1 v2 v3 v4 v5 h
    have h : (b1 (rgI ρ 6 90 v1) (fun x13 => if x13 ≤ v5 then gd (¬ okZ v4 = true) (some (v4)) else b0 ((8 * v1) + v5) (fun x24 => b1 (rgI ρ 6 90 v1) (fun x39 => gd (x39 = 0) (b0 ((8 * v1) + ((v5 + 1) - (v5 + 1) / x39 * x39)) (fun x42 => b1 (rgI ρ 7 720 x24) (fun x50 => b1 (rgI ρ 8 720 x24) (fun x59 => b1 (rgI ρ 7 720 x42) (fun x68 => b1 (rgI ρ 8 720 x42) (fun x77 => b1 (R_M_turn x50 x59 x68 x77 v2 v3) (fun x90 => if x68 ≤ x50 then RB_M_liesIn_110 ρ (fun v1 v2 v3 v4 v5 => RB_M_liesIn_6 ρ n v1 v2 v3 v4 v5) v1 v2 v3 v4 v5 x50 x59 x68 x77 x90 v2 x68 else RB_M_liesIn_110 ρ (fun v1 v2 v3 v4 v5 => RB_M_liesIn_6 ρ n v1 v2 v3 v4 v5) v1 v2 v3 v4 v5 x50 x59 x68 x77 x90 v2 x50))))))))))) = some r := h
    refine wm_iload E dM_liesIn_6 (j := 5) rfl ?_
    refine wm_aload_n E dM_liesIn_8 rfl (j := 0) rfl ?_
    refine wm_rget (v := vR (some (b + 5))) E fd_M_22 rfl dM_liesIn_9 ?_
    refine wm_iload_n E dM_liesIn_12 rfl (j := 1) rfl ?_
    refine wm_riald E (by decide) rfl rfl (by decide) (by decide) h dM_liesIn_13 (fun x13 h => ?_)
    refine wm_icmp_ge (tgt := 247) E dM_liesIn_14 (by decide) (fun c14 => ?_) (fun c14 => ?_)
    · have h := (if_pos c14).symm.trans h
      refine wm_iload E dM_liesIn_247 (j := 4) rfl ?_
      obtain ⟨hz249, h⟩ := gdS h
      exact wm_zret (rt := .boolean) E hQ (rqI0 h) rfl (okZN hz249) (by decide) (by decide) dM_liesIn_249
    · have h := (if_neg c14).symm.trans h
      refine wm_bipush (x := 8) E dM_liesIn_17 (by decide) ?_
      refine wm_iload_n E dM_liesIn_19 rfl (j := 1) rfl ?_
      refine wm_imul E dM_liesIn_20 ?_
      refine wm_iload E dM_liesIn_21 (j := 5) rfl ?_
      refine wm_iadd E dM_liesIn_23 ?_
      refine wm_letI h (fun x24 h => ?_)
      refine wm_istore (lv' := [(6, vI x24), (0, vR (some b)), (1, vI v1), (2, vI v2), (3, vI v3), (4, vI v4), (5, vI v5)]) E dM_liesIn_24 (by decide) rfl ?_
      refine wm_bipush (x := 8) E dM_liesIn_26 (by decide) ?_
      refine wm_iload_n E dM_liesIn_28 rfl (j := 2) rfl ?_
      refine wm_imul E dM_liesIn_29 ?_
      refine wm_iload E dM_liesIn_30 (j := 6) rfl ?_
      refine wm_iconst (x := 1) E dM_liesIn_32 (by decide) ?_
      refine wm_iadd E dM_liesIn_33 ?_
      refine wm_aload_n E dM_liesIn_34 rfl (j := 1) rfl ?_
      refine wm_rget (v := vR (some (b + 5))) E fd_M_22 rfl dM_liesIn_35 ?_
      refine wm_iload_n E dM_liesIn_38 rfl (j := 2) rfl ?_
      refine wm_riald E (by decide) rfl rfl (by decide) (by decide) h dM_liesIn_39 (fun x39 h => ?_)
      obtain ⟨hz40, h⟩ := gdS h
      refine wm_irem E dM_liesIn_40 hz40 ?_
      refine wm_iadd E dM_liesIn_41 ?_
      refine wm_letI h (fun x42 h => ?_)
      refine wm_istore (lv' := [(7, vI x42), (6, vI x24), (0, vR (some b)), (1, vI v1), (2, vI v2), (3, vI v3), (4, vI v4), (5, vI v5)]) E dM_liesIn_42 (by decide) rfl ?_
      refine wm_aload_n E dM_liesIn_44 rfl (j := 2) rfl ?_
      refine wm_rget (v := vR (some (b + 6))) E fd_M_25 rfl dM_liesIn_45 ?_
      refine wm_iload E dM_liesIn_48 (j := 1) rfl ?_
      refine wm_riald E (by decide) rfl rfl (by decide) (by decide) h dM_liesIn_50 (fun x50 h => ?_)
      refine wm_istore (lv' := [(8, vI x50), (7, vI x42), (6, vI x24), (0, vR (some b)), (1, vI v1), (2, vI v2), (3, vI v3), (4, vI v4), (5, vI v5)]) E dM_liesIn_51 (by decide) rfl ?_
      refine wm_aload_n E dM_liesIn_53 rfl (j := 3) rfl ?_
      refine wm_rget (v := vR (some (b + 7))) E fd_M_28 rfl dM_liesIn_54 ?_
      refine wm_iload E dM_liesIn_57 (j := 2) rfl ?_
      refine wm_riald E (by decide) rfl rfl (by decide) (by decide) h dM_liesIn_59 (fun x59 h => ?_)
      refine wm_istore (lv' := [(9, vI x59), (8, vI x50), (7, vI x42), (6, vI x24), (0, vR (some b)), (1, vI v1), (2, vI v2), (3, vI v3), (4, vI v4), (5, vI v5)]) E dM_liesIn_60 (by decide) rfl ?_
      refine wm_aload_n E dM_liesIn_62 rfl (j := 4) rfl ?_
      refine wm_rget (v := vR (some (b + 6))) E fd_M_25 rfl dM_liesIn_63 ?_
      refine wm_iload E dM_liesIn_66 (j := 2) rfl ?_
      refine wm_riald E (by decide) rfl rfl (by decide) (by decide) h dM_liesIn_68 (fun x68 h => ?_)
      refine wm_istore (lv' := [(10, vI x68), (9, vI x59), (8, vI x50), (7, vI x42), (6, vI x24), (0, vR (some b)), (1, vI v1), (2, vI v2), (3, vI v3), (4, vI v4), (5, vI v5)]) E dM_liesIn_69 (by decide) rfl ?_
      refine wm_aload_n E dM_liesIn_71 rfl (j := 5) rfl ?_
      refine wm_rget (v := vR (some (b + 7))) E fd_M_28 rfl dM_liesIn_72 ?_
      refine wm_iload E dM_liesIn_75 (j := 3) rfl ?_
      refine wm_riald E (by decide) rfl rfl (by decide) (by decide) h dM_liesIn_77 (fun x77 h => ?_)
      refine wm_istore (lv' := [(11, vI x77), (10, vI x68), (9, vI x59), (8, vI x50), (7, vI x42), (6, vI x24), (0, vR (some b)), (1, vI v1), (2, vI v2), (3, vI v3), (4, vI v4), (5, vI v5)]) E dM_liesIn_78 (by decide) rfl ?_
      refine wm_iload E dM_liesIn_80 (j := 3) rfl ?_
      refine wm_iload E dM_liesIn_82 (j := 2) rfl ?_
      refine wm_iload E dM_liesIn_84 (j := 1) rfl ?_
      refine wm_iload E dM_liesIn_86 (j := 0) rfl ?_
      refine wm_iload_n E dM_liesIn_88 rfl (j := 8) rfl ?_
      refine wm_iload_n E dM_liesIn_89 rfl (j := 9) rfl ?_
      obtain ⟨x90, hc90, h⟩ := b1S h
      refine wm_cS (As := [vI x50, vI x59, vI x68, vI x77, vI v2, vI v3]) (st := []) E lk_M_165 sc_M_turn (RC_M_turn (xl X) X.1 x50 x59 x68 x77 v2 v3 _ _ hc90) rfl rfl (by rw [hR]; decide) (by rw [hR]; decide) (Nat.le_of_ble_eq_true rfl) dM_liesIn_90 ?_
      refine wm_istore (lv' := [(12, vI x90), (11, vI x77), (10, vI x68), (9, vI x59), (8, vI x50), (7, vI x42), (6, vI x24), (0, vR (some b)), (1, vI v1), (2, vI v2), (3, vI v3), (4, vI v4), (5, vI v5)]) E dM_liesIn_93 (by decide) rfl ?_
      refine wm_iload_n E dM_liesIn_95 rfl (j := 9) rfl ?_
      refine wm_iload E dM_liesIn_96 (j := 4) rfl ?_
      refine wm_iload E dM_liesIn_98 (j := 2) rfl ?_
      refine wm_icmp_ge (tgt := 108) E dM_liesIn_100 (by decide) (fun c100 => ?_) (fun c100 => ?_)
      · have h := (if_pos c100).symm.trans h
        refine wm_iload E dM_liesIn_108 (j := 2) rfl ?_
        refine wm_pick (lv' := [(0, vR (some b)), (1, vI v1), (2, vI v2), (3, vI v3), (4, vI v4), (5, vI v5), (8, vI x50), (9, vI x59), (10, vI x68), (11, vI x77), (12, vI x90)]) [7, 8, 9, 10, 11, 12, 4, 3, 2, 1, 0] rfl ?_
        exact rw_M_liesIn_110 E hQ hR hI (fun v1 v2 v3 v4 v5 => RB_M_liesIn_6 ρ n v1 v2 v3 v4 v5) ih v1 v2 v3 v4 v5 x50 x59 x68 x77 x90 v2 x68 h
      · have h := (if_neg c100).symm.trans h
        refine wm_iload E dM_liesIn_103 (j := 4) rfl ?_
        refine wm_goto (tgt := 110) E dM_liesIn_105 (by decide) ?_
        refine wm_pick (lv' := [(0, vR (some b)), (1, vI v1), (2, vI v2), (3, vI v3), (4, vI v4), (5, vI v5), (8, vI x50), (9, vI x59), (10, vI x68), (11, vI x77), (12, vI x90)]) [7, 8, 9, 10, 11, 12, 4, 3, 2, 1, 0] rfl ?_
        exact rw_M_liesIn_110 E hQ hR hI (fun v1 v2 v3 v4 v5 => RB_M_liesIn_6 ρ n v1 v2 v3 v4 v5) ih v1 v2 v3 v4 v5 x50 x59 x68 x77 x90 v2 x50 h
def R_M_liesIn (v1 : Int32) (v2 : Int32) (v3 : Int32) (ρ : RS) : Option Int32 := RB_M_liesIn_6 ρ fu v1 v2 v3 0 0
set_option maxHeartbeats 4000000 in
set_option maxRecDepth 100000 in
theorem RC_M_liesIn (l : Launch) (G : GG) (b : Nat) (ρ : RS) (μ : Mem) (v1 : Int32) (v2 : Int32) (v3 : Int32) (r : Int32) (h : R_M_liesIn v1 v2 v3 ρ = some r) : CT l G y_M_liesIn prog_13_method_16_code 14 (some .boolean) 1 0 0 25 (ov b ρ μ) [vR (some b), vI v1, vI v2, vI v3] (some (vI r)) (ov b ρ μ) := by
  refine wm_met (lv := [(0, vR (some b)), (1, vI v1), (2, vI v2), (3, vI v3)]) (by decide +kernel) (Nat.le_of_ble_eq_true rfl) rfl (fun X E hQ hR hI => ?_)
  have h : (RB_M_liesIn_6 ρ fu v1 v2 v3 0 0) = some r := h
  refine wm_iconst (x := 0) E dM_liesIn_0 (by decide) ?_
  refine wm_istore (lv' := [(4, vI 0), (0, vR (some b)), (1, vI v1), (2, vI v2), (3, vI v3)]) E dM_liesIn_1 (by decide) rfl ?_
  refine wm_iconst (x := 0) E dM_liesIn_3 (by decide) ?_
  refine wm_istore (lv' := [(5, vI 0), (4, vI 0), (0, vR (some b)), (1, vI v1), (2, vI v2), (3, vI v3)]) E dM_liesIn_4 (by decide) rfl ?_
  refine wm_pick (lv' := [(0, vR (some b)), (1, vI v1), (2, vI v2), (3, vI v3), (4, vI 0), (5, vI 0)]) [2, 3, 4, 5, 1, 0] rfl ?_
  exact rw_M_liesIn_6 E hQ hR hI fu v1 v2 v3 0 0 h
def RB_M_holds_88  (s0 : Int32) (ρ : RS) : Option (Int32 × RS) := some (s0, ρ)
set_option maxHeartbeats 4000000 in
set_option maxRecDepth 100000 in
theorem rw_M_holds_88 {X : CX} (E : EV X prog_13_method_17_code 6 "PlaceFinderModel" (some .int)) {μ0 μ : Mem} {b : Nat} {r : Int32} {ρ' : RS} (hQ : RQ X 0 0 μ0 (some (vI r)) (ov b ρ' μ)) (hR : xR X = { frames := 2, cells := 0, slots := 0, locals := 58 }) (hI : X.2.2.2.2.2.2.2.2.2.2.2.1.name = "holds") (hW : mW μ ≤ b)  (s0 : Int32) (ρ : RS) (h : RB_M_holds_88  s0 ρ = some (r, ρ')) : WM X 6 88 [] [vI s0] 0 0 (ov b ρ μ) := by
  have h : (some (s0, ρ)) = some (r, ρ') := h
  exact wm_iret (rt := .int) E hQ (rrI h) (rrM h) (by decide) (by decide) dM_holds_88
def RB_M_holds_68   (ρ : RS) : Option (Int32 × RS) := RB_M_holds_88 ((-1)) (ρ)
set_option maxHeartbeats 4000000 in
set_option maxRecDepth 100000 in
theorem rw_M_holds_68 {X : CX} (E : EV X prog_13_method_17_code 6 "PlaceFinderModel" (some .int)) {μ0 μ : Mem} {b : Nat} {r : Int32} {ρ' : RS} (hQ : RQ X 0 0 μ0 (some (vI r)) (ov b ρ' μ)) (hR : xR X = { frames := 2, cells := 0, slots := 0, locals := 58 }) (hI : X.2.2.2.2.2.2.2.2.2.2.2.1.name = "holds") (hW : mW μ ≤ b)   (ρ : RS) (h : RB_M_holds_68  ρ = some (r, ρ')) : WM X 6 68 [] [] 0 0 (ov b ρ μ) := by
  have h : (RB_M_holds_88 ((-1)) (ρ)) = some (r, ρ') := h
  refine wm_iconst (x := -1) E dM_holds_68 (by decide) ?_
  refine wm_goto (tgt := 88) E dM_holds_69 (by decide) ?_
  refine wm_pick (lv' := []) [] rfl ?_
  exact rw_M_holds_88 E hQ hR hI hW ((-1)) (ρ) h
def RB_M_holds_30  (v1 : Int32) (v2 : Int32) (v3 : Int32) (v4 : Int32) (s1 : Int32) (ρ : RS) : Option (Int32 × RS) := b0 (rpI ρ 0 s1) (fun ρ30 => if (ri ρ30 0) ≤ 0 then b1 (R_M_shapeOf v1 v4 (ρ30)) (fun x46 => if x46 = ((-1)) then RB_M_holds_68 (ρ30) else b1 (rgI ρ30 6 90 x46) (fun x63 => if x63 = 1 then RB_M_holds_68 (ρ30) else b1 (R_M_liesIn x46 v2 v3 (ρ30)) (fun x77 => if x77 = 0 then RB_M_holds_88 0 (ρ30) else RB_M_holds_88 1 (ρ30)))) else some (0, ρ30))
set_option maxHeartbeats 4000000 in
set_option maxRecDepth 100000 in
theorem rw_M_holds_30 {X : CX} (E : EV X prog_13_method_17_code 6 "PlaceFinderModel" (some .int)) {μ0 μ : Mem} {b : Nat} {r : Int32} {ρ' : RS} (hQ : RQ X 0 0 μ0 (some (vI r)) (ov b ρ' μ)) (hR : xR X = { frames := 2, cells := 0, slots := 0, locals := 58 }) (hI : X.2.2.2.2.2.2.2.2.2.2.2.1.name = "holds") (hW : mW μ ≤ b)  (v1 : Int32) (v2 : Int32) (v3 : Int32) (v4 : Int32) (s1 : Int32) (ρ : RS) (h : RB_M_holds_30  v1 v2 v3 v4 s1 ρ = some (r, ρ')) : WM X 6 30 [(0, vR (some b)), (1, vI v1), (2, vI v2), (3, vI v3), (4, vI v4)] [vI s1, vR (some b)] 0 0 (ov b ρ μ) := by
  have h : (b0 (rpI ρ 0 s1) (fun ρ30 => if (ri ρ30 0) ≤ 0 then b1 (R_M_shapeOf v1 v4 (ρ30)) (fun x46 => if x46 = ((-1)) then RB_M_holds_68 (ρ30) else b1 (rgI ρ30 6 90 x46) (fun x63 => if x63 = 1 then RB_M_holds_68 (ρ30) else b1 (R_M_liesIn x46 v2 v3 (ρ30)) (fun x77 => if x77 = 0 then RB_M_holds_88 0 (ρ30) else RB_M_holds_88 1 (ρ30)))) else some (0, ρ30))) = some (r, ρ') := h
  refine wm_rpI E fp_M_132 (fun q => by cases q) rfl (by decide) hW dM_holds_30 ?_
  refine wm_rlet h (fun ρ30 h => ?_)
  refine wm_aload_n E dM_holds_33 rfl (j := 0) rfl ?_
  refine wm_rget (v := vI (ri ρ30 0)) E fd_M_132 rfl dM_holds_34 ?_
  refine wm_if_le (tgt := 42) E dM_holds_37 (by decide) (fun c37 => ?_) (fun c37 => ?_)
  · have h := (if_pos c37).symm.trans h
    refine wm_aload_n E dM_holds_42 rfl (j := 0) rfl ?_
    refine wm_iload_n E dM_holds_43 rfl (j := 1) rfl ?_
    refine wm_iload E dM_holds_44 (j := 4) rfl ?_
    obtain ⟨x46, hc46, h⟩ := b1S h
    refine wm_cV (ci := 12) (As := [vI v1, vI v4]) (st := []) E lk_M_161 rfl im_M_shapeOf sl_M_shapeOf (ov_rc _ _ _) (RC_M_shapeOf (xl X) X.1 b (ρ30) μ v1 v4 _ hc46) rfl rfl (by rw [hR]; decide) (by rw [hR]; decide) (Nat.le_of_ble_eq_true rfl) dM_holds_46 ?_
    refine wm_istore (lv' := [(5, vI x46), (0, vR (some b)), (1, vI v1), (2, vI v2), (3, vI v3), (4, vI v4)]) E dM_holds_49 (by decide) rfl ?_
    refine wm_iload E dM_holds_51 (j := 0) rfl ?_
    refine wm_iconst (x := -1) E dM_holds_53 (by decide) ?_
    refine wm_icmp_eq (tgt := 68) E dM_holds_54 (by decide) (fun c54 => ?_) (fun c54 => ?_)
    · have h := (if_pos c54).symm.trans h
      refine wm_pick (lv' := []) [] rfl ?_
      exact rw_M_holds_68 E hQ hR hI hW (ρ30) h
    · have h := (if_neg c54).symm.trans h
      refine wm_aload_n E dM_holds_57 rfl (j := 1) rfl ?_
      refine wm_rget (v := vR (some (b + 5))) E fd_M_22 rfl dM_holds_58 ?_
      refine wm_iload E dM_holds_61 (j := 0) rfl ?_
      refine wm_riald E (by decide) rfl rfl (by decide) (by decide) h dM_holds_63 (fun x63 h => ?_)
      refine wm_iconst (x := 1) E dM_holds_64 (by decide) ?_
      refine wm_icmp_ne (tgt := 72) E dM_holds_65 (by decide) (fun c65 => ?_) (fun c65 => ?_)
      · have h := (if_neg c65).symm.trans h
        refine wm_aload_n E dM_holds_72 rfl (j := 1) rfl ?_
        refine wm_iload E dM_holds_73 (j := 0) rfl ?_
        refine wm_iload_n E dM_holds_75 rfl (j := 3) rfl ?_
        refine wm_iload_n E dM_holds_76 rfl (j := 4) rfl ?_
        obtain ⟨x77, hc77, h⟩ := b1S h
        refine wm_cV (ci := 12) (As := [vI x46, vI v2, vI v3]) (st := []) E lk_M_169 rfl im_M_liesIn sl_M_liesIn (ov_rc _ _ _) (RC_M_liesIn (xl X) X.1 b (ρ30) μ x46 v2 v3 _ hc77) rfl rfl (by rw [hR]; decide) (by rw [hR]; decide) (Nat.le_of_ble_eq_true rfl) dM_holds_77 ?_
        refine wm_if_eq (tgt := 87) E dM_holds_80 (by decide) (fun c80 => ?_) (fun c80 => ?_)
        · have h := (if_pos c80).symm.trans h
          refine wm_iconst (x := 0) E dM_holds_87 (by decide) ?_
          refine wm_pick (lv' := []) [] rfl ?_
          exact rw_M_holds_88 E hQ hR hI hW 0 (ρ30) h
        · have h := (if_neg c80).symm.trans h
          refine wm_iconst (x := 1) E dM_holds_83 (by decide) ?_
          refine wm_goto (tgt := 88) E dM_holds_84 (by decide) ?_
          refine wm_pick (lv' := []) [] rfl ?_
          exact rw_M_holds_88 E hQ hR hI hW 1 (ρ30) h
      · have h := (if_pos c65).symm.trans h
        refine wm_pick (lv' := []) [] rfl ?_
        exact rw_M_holds_68 E hQ hR hI hW (ρ30) h
  · have h := (if_neg c37).symm.trans h
    refine wm_iconst (x := 0) E dM_holds_40 (by decide) ?_
    exact wm_iret (rt := .int) E hQ (rrI h) (rrM h) (by decide) (by decide) dM_holds_41
def RB_M_holds_25  (v1 : Int32) (v2 : Int32) (v3 : Int32) (v4 : Int32) (ρ : RS) : Option (Int32 × RS) := RB_M_holds_30 v1 v2 v3 v4 1 (ρ)
set_option maxHeartbeats 4000000 in
set_option maxRecDepth 100000 in
theorem rw_M_holds_25 {X : CX} (E : EV X prog_13_method_17_code 6 "PlaceFinderModel" (some .int)) {μ0 μ : Mem} {b : Nat} {r : Int32} {ρ' : RS} (hQ : RQ X 0 0 μ0 (some (vI r)) (ov b ρ' μ)) (hR : xR X = { frames := 2, cells := 0, slots := 0, locals := 58 }) (hI : X.2.2.2.2.2.2.2.2.2.2.2.1.name = "holds") (hW : mW μ ≤ b)  (v1 : Int32) (v2 : Int32) (v3 : Int32) (v4 : Int32) (ρ : RS) (h : RB_M_holds_25  v1 v2 v3 v4 ρ = some (r, ρ')) : WM X 6 25 [(0, vR (some b)), (1, vI v1), (2, vI v2), (3, vI v3), (4, vI v4)] [vR (some b)] 0 0 (ov b ρ μ) := by
  have h : (RB_M_holds_30 v1 v2 v3 v4 1 (ρ)) = some (r, ρ') := h
  refine wm_iconst (x := 1) E dM_holds_25 (by decide) ?_
  refine wm_goto (tgt := 30) E dM_holds_26 (by decide) ?_
  refine wm_pick (lv' := [(0, vR (some b)), (1, vI v1), (2, vI v2), (3, vI v3), (4, vI v4)]) [0, 1, 2, 3, 4] rfl ?_
  exact rw_M_holds_30 E hQ hR hI hW v1 v2 v3 v4 1 (ρ) h
def R_M_holds (v1 : Int32) (v2 : Int32) (v3 : Int32) (v4 : Int32) (ρ : RS) : Option (Int32 × RS) := b1 (R_M_isPlace v1 (ρ)) (fun x3 => if x3 = 0 then RB_M_holds_25 v1 v2 v3 v4 (ρ) else b1 (R_M_isAt v2 v3) (fun x11 => if x11 = 0 then RB_M_holds_25 v1 v2 v3 v4 (ρ) else b1 (R_M_isDay v4) (fun x19 => if x19 = 0 then RB_M_holds_25 v1 v2 v3 v4 (ρ) else RB_M_holds_30 v1 v2 v3 v4 0 (ρ))))
set_option maxHeartbeats 4000000 in
set_option maxRecDepth 100000 in
theorem RC_M_holds (l : Launch) (G : GG) (b : Nat) (ρ : RS) (μ : Mem) (hW : mW μ ≤ b) (v1 : Int32) (v2 : Int32) (v3 : Int32) (v4 : Int32) (r : Int32) (ρ' : RS) (h : R_M_holds v1 v2 v3 v4 ρ = some (r, ρ')) : CT l G y_M_holds prog_13_method_17_code 6 (some .int) 2 0 0 58 (ov b ρ μ) [vR (some b), vI v1, vI v2, vI v3, vI v4] (some (vI r)) (ov b ρ' μ) := by
  refine wm_met (lv := [(0, vR (some b)), (1, vI v1), (2, vI v2), (3, vI v3), (4, vI v4)]) (by decide +kernel) (Nat.le_of_ble_eq_true rfl) rfl (fun X E hQ hR hI => ?_)
  have h : (b1 (R_M_isPlace v1 (ρ)) (fun x3 => if x3 = 0 then RB_M_holds_25 v1 v2 v3 v4 (ρ) else b1 (R_M_isAt v2 v3) (fun x11 => if x11 = 0 then RB_M_holds_25 v1 v2 v3 v4 (ρ) else b1 (R_M_isDay v4) (fun x19 => if x19 = 0 then RB_M_holds_25 v1 v2 v3 v4 (ρ) else RB_M_holds_30 v1 v2 v3 v4 0 (ρ))))) = some (r, ρ') := h
  refine wm_aload_n E dM_holds_0 rfl (j := 0) rfl ?_
  refine wm_aload_n E dM_holds_1 rfl (j := 0) rfl ?_
  refine wm_iload_n E dM_holds_2 rfl (j := 1) rfl ?_
  obtain ⟨x3, hc3, h⟩ := b1S h
  refine wm_cV (ci := 12) (As := [vI v1]) (st := [vR (some b)]) E lk_M_154 rfl im_M_isPlace sl_M_isPlace (ov_rc _ _ _) (RC_M_isPlace (xl X) X.1 b (ρ) μ v1 _ hc3) rfl rfl (by rw [hR]; decide) (by rw [hR]; decide) (Nat.le_of_ble_eq_true rfl) dM_holds_3 ?_
  refine wm_if_eq (tgt := 25) E dM_holds_6 (by decide) (fun c6 => ?_) (fun c6 => ?_)
  · have h := (if_pos c6).symm.trans h
    refine wm_pick (lv' := [(0, vR (some b)), (1, vI v1), (2, vI v2), (3, vI v3), (4, vI v4)]) [0, 1, 2, 3, 4] rfl ?_
    exact rw_M_holds_25 E hQ hR hI hW v1 v2 v3 v4 (ρ) h
  · have h := (if_neg c6).symm.trans h
    refine wm_iload_n E dM_holds_9 rfl (j := 2) rfl ?_
    refine wm_iload_n E dM_holds_10 rfl (j := 3) rfl ?_
    obtain ⟨x11, hc11, h⟩ := b1S h
    refine wm_cS (As := [vI v2, vI v3]) (st := [vR (some b)]) E lk_M_147 sc_M_isAt (RC_M_isAt (xl X) X.1 v2 v3 _ _ hc11) rfl rfl (by rw [hR]; decide) (by rw [hR]; decide) (Nat.le_of_ble_eq_true rfl) dM_holds_11 ?_
    refine wm_if_eq (tgt := 25) E dM_holds_14 (by decide) (fun c14 => ?_) (fun c14 => ?_)
    · have h := (if_pos c14).symm.trans h
      refine wm_pick (lv' := [(0, vR (some b)), (1, vI v1), (2, vI v2), (3, vI v3), (4, vI v4)]) [0, 1, 2, 3, 4] rfl ?_
      exact rw_M_holds_25 E hQ hR hI hW v1 v2 v3 v4 (ρ) h
    · have h := (if_neg c14).symm.trans h
      refine wm_iload E dM_holds_17 (j := 4) rfl ?_
      obtain ⟨x19, hc19, h⟩ := b1S h
      refine wm_cS (As := [vI v4]) (st := [vR (some b)]) E lk_M_143 sc_M_isDay (RC_M_isDay (xl X) X.1 v4 _ _ hc19) rfl rfl (by rw [hR]; decide) (by rw [hR]; decide) (Nat.le_of_ble_eq_true rfl) dM_holds_19 ?_
      refine wm_if_ne (tgt := 29) E dM_holds_22 (by decide) (fun c22 => ?_) (fun c22 => ?_)
      · have h := (if_neg c22).symm.trans h
        refine wm_iconst (x := 0) E dM_holds_29 (by decide) ?_
        refine wm_pick (lv' := [(0, vR (some b)), (1, vI v1), (2, vI v2), (3, vI v3), (4, vI v4)]) [0, 1, 2, 3, 4] rfl ?_
        exact rw_M_holds_30 E hQ hR hI hW v1 v2 v3 v4 0 (ρ) h
      · have h := (if_pos c22).symm.trans h
        refine wm_pick (lv' := [(0, vR (some b)), (1, vI v1), (2, vI v2), (3, vI v3), (4, vI v4)]) [0, 1, 2, 3, 4] rfl ?_
        exact rw_M_holds_25 E hQ hR hI hW v1 v2 v3 v4 (ρ) h
def RB_M_letter_26   (ρ : RS) : Option (Int32 × RS) := gd (¬ okZ 0 = true) (some (0, ρ))
set_option maxHeartbeats 4000000 in
set_option maxRecDepth 100000 in
theorem rw_M_letter_26 {X : CX} (E : EV X prog_13_method_18_code 2 "PlaceFinderModel" (some .boolean)) {μ0 μ : Mem} {b : Nat} {r : Int32} {ρ' : RS} (hQ : RQ X 0 0 μ0 (some (vI r)) (ov b ρ' μ)) (hR : xR X = { frames := 0, cells := 0, slots := 0, locals := 0 }) (hI : X.2.2.2.2.2.2.2.2.2.2.2.1.name = "letter") (hW : mW μ ≤ b)   (ρ : RS) (h : RB_M_letter_26  ρ = some (r, ρ')) : WM X 2 26 [] [] 0 0 (ov b ρ μ) := by
  have h : (gd (¬ okZ 0 = true) (some (0, ρ))) = some (r, ρ') := h
  refine wm_iconst (x := 0) E dM_letter_26 (by decide) ?_
  obtain ⟨hz27, h⟩ := gdS h
  exact wm_zret (rt := .boolean) E hQ (rrI h) (rrM h) (okZN hz27) (by decide) (by decide) dM_letter_27
def R_M_letter (v1 : Int32) (ρ : RS) : Option (Int32 × RS) := b0 (rpI ρ 0 0) (fun ρ2 => if v1 < 97 then RB_M_letter_26 (ρ2) else if 122 < v1 then RB_M_letter_26 (ρ2) else if (ri ρ2 21) = 10 then RB_M_letter_26 (ρ2) else b1 (rsI ρ2 22 10 (ri ρ2 21) v1) (fun ρ37 => b0 (rpI ρ37 21 ((ri ρ37 21) + 1)) (fun ρ45 => gd (¬ okZ 1 = true) (some (1, ρ45)))))
set_option maxHeartbeats 4000000 in
set_option maxRecDepth 100000 in
theorem RC_M_letter (l : Launch) (G : GG) (b : Nat) (ρ : RS) (μ : Mem) (hW : mW μ ≤ b) (v1 : Int32) (r : Int32) (ρ' : RS) (h : R_M_letter v1 ρ = some (r, ρ')) : CT l G y_M_letter prog_13_method_18_code 2 (some .boolean) 0 0 0 0 (ov b ρ μ) [vR (some b), vI v1] (some (vI r)) (ov b ρ' μ) := by
  refine wm_met (lv := [(0, vR (some b)), (1, vI v1)]) (by decide +kernel) (Nat.le_of_ble_eq_true rfl) rfl (fun X E hQ hR hI => ?_)
  have h : (b0 (rpI ρ 0 0) (fun ρ2 => if v1 < 97 then RB_M_letter_26 (ρ2) else if 122 < v1 then RB_M_letter_26 (ρ2) else if (ri ρ2 21) = 10 then RB_M_letter_26 (ρ2) else b1 (rsI ρ2 22 10 (ri ρ2 21) v1) (fun ρ37 => b0 (rpI ρ37 21 ((ri ρ37 21) + 1)) (fun ρ45 => gd (¬ okZ 1 = true) (some (1, ρ45)))))) = some (r, ρ') := h
  refine wm_aload_n E dM_letter_0 rfl (j := 0) rfl ?_
  refine wm_iconst (x := 0) E dM_letter_1 (by decide) ?_
  refine wm_rpI E fp_M_132 (fun q => by cases q) rfl (by decide) hW dM_letter_2 ?_
  refine wm_rlet h (fun ρ2 h => ?_)
  refine wm_iload_n E dM_letter_5 rfl (j := 1) rfl ?_
  refine wm_bipush (x := 97) E dM_letter_6 (by decide) ?_
  refine wm_icmp_lt (tgt := 26) E dM_letter_8 (by decide) (fun c8 => ?_) (fun c8 => ?_)
  · have h := (if_pos c8).symm.trans h
    refine wm_pick (lv' := []) [] rfl ?_
    exact rw_M_letter_26 E hQ hR hI hW (ρ2) h
  · have h := (if_neg c8).symm.trans h
    refine wm_iload_n E dM_letter_11 rfl (j := 1) rfl ?_
    refine wm_bipush (x := 122) E dM_letter_12 (by decide) ?_
    refine wm_icmp_gt (tgt := 26) E dM_letter_14 (by decide) (fun c14 => ?_) (fun c14 => ?_)
    · have h := (if_pos c14).symm.trans h
      refine wm_pick (lv' := []) [] rfl ?_
      exact rw_M_letter_26 E hQ hR hI hW (ρ2) h
    · have h := (if_neg c14).symm.trans h
      refine wm_aload_n E dM_letter_17 rfl (j := 0) rfl ?_
      refine wm_rget (v := vI (ri ρ2 21)) E fd_M_172 rfl dM_letter_18 ?_
      refine wm_bipush (x := 10) E dM_letter_21 (by decide) ?_
      refine wm_icmp_ne (tgt := 28) E dM_letter_23 (by decide) (fun c23 => ?_) (fun c23 => ?_)
      · have h := (if_neg c23).symm.trans h
        refine wm_aload_n E dM_letter_28 rfl (j := 0) rfl ?_
        refine wm_rget (v := vR (some (b + 19))) E fd_M_64 rfl dM_letter_29 ?_
        refine wm_aload_n E dM_letter_32 rfl (j := 0) rfl ?_
        refine wm_rget (v := vI (ri ρ2 21)) E fd_M_172 rfl dM_letter_33 ?_
        refine wm_iload_n E dM_letter_36 rfl (j := 1) rfl ?_
        refine wm_riast E (by decide) rfl rfl (by decide) (by decide) hW h dM_letter_37 (fun ρ37 h => ?_)
        refine wm_aload_n E dM_letter_38 rfl (j := 0) rfl ?_
        refine wm_dup E dM_letter_39 rfl ?_
        refine wm_rget (v := vI (ri ρ37 21)) E fd_M_172 rfl dM_letter_40 ?_
        refine wm_iconst (x := 1) E dM_letter_43 (by decide) ?_
        refine wm_iadd E dM_letter_44 ?_
        refine wm_rpI E fp_M_172 (fun q => by cases q) rfl (by decide) hW dM_letter_45 ?_
        refine wm_rlet h (fun ρ45 h => ?_)
        refine wm_iconst (x := 1) E dM_letter_48 (by decide) ?_
        obtain ⟨hz49, h⟩ := gdS h
        exact wm_zret (rt := .boolean) E hQ (rrI h) (rrM h) (okZN hz49) (by decide) (by decide) dM_letter_49
      · have h := (if_pos c23).symm.trans h
        refine wm_pick (lv' := []) [] rfl ?_
        exact rw_M_letter_26 E hQ hR hI hW (ρ2) h
def RB_M_typedAt_18 (ρ : RS)  (s0 : Int32) : Option Int32 := some (s0)
set_option maxHeartbeats 4000000 in
set_option maxRecDepth 100000 in
theorem rw_M_typedAt_18 {X : CX} (E : EV X prog_13_method_19_code 2 "PlaceFinderModel" (some .int)) {μ0 μ : Mem} {b : Nat} {r : Int32} {ρ : RS} (hQ : RQ X 0 0 μ0 (some (vI r)) (ov b ρ μ)) (hR : xR X = { frames := 0, cells := 0, slots := 0, locals := 0 }) (hI : X.2.2.2.2.2.2.2.2.2.2.2.1.name = "typedAt")  (s0 : Int32) (h : RB_M_typedAt_18 ρ  s0 = some r) : WM X 2 18 [] [vI s0] 0 0 (ov b ρ μ) := by
  have h : (some (s0)) = some r := h
  exact wm_iret (rt := .int) E hQ (rqI0 h) rfl (by decide) (by decide) dM_typedAt_18
def R_M_typedAt (v1 : Int32) (ρ : RS) : Option Int32 := if (ri ρ 21) ≤ v1 then RB_M_typedAt_18 ρ 0 else b1 (rgI ρ 22 10 v1) (fun x13 => RB_M_typedAt_18 ρ x13)
set_option maxHeartbeats 4000000 in
set_option maxRecDepth 100000 in
theorem RC_M_typedAt (l : Launch) (G : GG) (b : Nat) (ρ : RS) (μ : Mem) (v1 : Int32) (r : Int32) (h : R_M_typedAt v1 ρ = some r) : CT l G y_M_typedAt prog_13_method_19_code 2 (some .int) 0 0 0 0 (ov b ρ μ) [vR (some b), vI v1] (some (vI r)) (ov b ρ μ) := by
  refine wm_met (lv := [(0, vR (some b)), (1, vI v1)]) (by decide +kernel) (Nat.le_of_ble_eq_true rfl) rfl (fun X E hQ hR hI => ?_)
  have h : (if (ri ρ 21) ≤ v1 then RB_M_typedAt_18 ρ 0 else b1 (rgI ρ 22 10 v1) (fun x13 => RB_M_typedAt_18 ρ x13)) = some r := h
  refine wm_iload_n E dM_typedAt_0 rfl (j := 1) rfl ?_
  refine wm_aload_n E dM_typedAt_1 rfl (j := 0) rfl ?_
  refine wm_rget (v := vI (ri ρ 21)) E fd_M_172 rfl dM_typedAt_2 ?_
  refine wm_icmp_ge (tgt := 17) E dM_typedAt_5 (by decide) (fun c5 => ?_) (fun c5 => ?_)
  · have h := (if_pos c5).symm.trans h
    refine wm_iconst (x := 0) E dM_typedAt_17 (by decide) ?_
    refine wm_pick (lv' := []) [] rfl ?_
    exact rw_M_typedAt_18 E hQ hR hI 0 h
  · have h := (if_neg c5).symm.trans h
    refine wm_aload_n E dM_typedAt_8 rfl (j := 0) rfl ?_
    refine wm_rget (v := vR (some (b + 19))) E fd_M_64 rfl dM_typedAt_9 ?_
    refine wm_iload_n E dM_typedAt_12 rfl (j := 1) rfl ?_
    refine wm_riald E (by decide) rfl rfl (by decide) (by decide) h dM_typedAt_13 (fun x13 h => ?_)
    refine wm_goto (tgt := 18) E dM_typedAt_14 (by decide) ?_
    refine wm_pick (lv' := []) [] rfl ?_
    exact rw_M_typedAt_18 E hQ hR hI x13 h
def RB_M_pairAt_74 (ρ : RS)  (s0 : Int32) : Option Int32 := some (s0)
set_option maxHeartbeats 4000000 in
set_option maxRecDepth 100000 in
theorem rw_M_pairAt_74 {X : CX} (E : EV X prog_13_method_20_code 4 "PlaceFinderModel" (some .int)) {μ0 μ : Mem} {b : Nat} {r : Int32} {ρ : RS} (hQ : RQ X 0 0 μ0 (some (vI r)) (ov b ρ μ)) (hR : xR X = { frames := 1, cells := 0, slots := 0, locals := 21 }) (hI : X.2.2.2.2.2.2.2.2.2.2.2.1.name = "pairAt")  (s0 : Int32) (h : RB_M_pairAt_74 ρ  s0 = some r) : WM X 4 74 [] [vI s0] 0 0 (ov b ρ μ) := by
  have h : (some (s0)) = some r := h
  exact wm_iret (rt := .int) E hQ (rqI0 h) rfl (by decide) (by decide) dM_pairAt_74
def RB_M_pairAt_73 (ρ : RS)   : Option Int32 := RB_M_pairAt_74 ρ 0
set_option maxHeartbeats 4000000 in
set_option maxRecDepth 100000 in
theorem rw_M_pairAt_73 {X : CX} (E : EV X prog_13_method_20_code 4 "PlaceFinderModel" (some .int)) {μ0 μ : Mem} {b : Nat} {r : Int32} {ρ : RS} (hQ : RQ X 0 0 μ0 (some (vI r)) (ov b ρ μ)) (hR : xR X = { frames := 1, cells := 0, slots := 0, locals := 21 }) (hI : X.2.2.2.2.2.2.2.2.2.2.2.1.name = "pairAt")   (h : RB_M_pairAt_73 ρ   = some r) : WM X 4 73 [] [] 0 0 (ov b ρ μ) := by
  have h : (RB_M_pairAt_74 ρ 0) = some r := h
  refine wm_iconst (x := 0) E dM_pairAt_73 (by decide) ?_
  refine wm_pick (lv' := []) [] rfl ?_
  exact rw_M_pairAt_74 E hQ hR hI 0 h
def RB_M_pairAt_56 (ρ : RS)  (v2 : Int32) (v3 : Int32) : Option Int32 := if v2 = 116 then if v3 = 104 then RB_M_pairAt_74 ρ 116 else RB_M_pairAt_73 ρ  else RB_M_pairAt_73 ρ 
set_option maxHeartbeats 4000000 in
set_option maxRecDepth 100000 in
theorem rw_M_pairAt_56 {X : CX} (E : EV X prog_13_method_20_code 4 "PlaceFinderModel" (some .int)) {μ0 μ : Mem} {b : Nat} {r : Int32} {ρ : RS} (hQ : RQ X 0 0 μ0 (some (vI r)) (ov b ρ μ)) (hR : xR X = { frames := 1, cells := 0, slots := 0, locals := 21 }) (hI : X.2.2.2.2.2.2.2.2.2.2.2.1.name = "pairAt")  (v2 : Int32) (v3 : Int32) (h : RB_M_pairAt_56 ρ  v2 v3 = some r) : WM X 4 56 [(2, vI v2), (3, vI v3)] [] 0 0 (ov b ρ μ) := by
  have h : (if v2 = 116 then if v3 = 104 then RB_M_pairAt_74 ρ 116 else RB_M_pairAt_73 ρ  else RB_M_pairAt_73 ρ ) = some r := h
  refine wm_iload_n E dM_pairAt_56 rfl (j := 0) rfl ?_
  refine wm_bipush (x := 116) E dM_pairAt_57 (by decide) ?_
  refine wm_icmp_ne (tgt := 73) E dM_pairAt_59 (by decide) (fun c59 => ?_) (fun c59 => ?_)
  · have h := (if_neg c59).symm.trans h
    refine wm_pick (lv' := []) [] rfl ?_
    exact rw_M_pairAt_73 E hQ hR hI  h
  · have h := (if_pos c59).symm.trans h
    refine wm_iload_n E dM_pairAt_62 rfl (j := 1) rfl ?_
    refine wm_bipush (x := 104) E dM_pairAt_63 (by decide) ?_
    refine wm_icmp_ne (tgt := 73) E dM_pairAt_65 (by decide) (fun c65 => ?_) (fun c65 => ?_)
    · have h := (if_neg c65).symm.trans h
      refine wm_pick (lv' := []) [] rfl ?_
      exact rw_M_pairAt_73 E hQ hR hI  h
    · have h := (if_pos c65).symm.trans h
      refine wm_bipush (x := 116) E dM_pairAt_68 (by decide) ?_
      refine wm_goto (tgt := 74) E dM_pairAt_70 (by decide) ?_
      refine wm_pick (lv' := []) [] rfl ?_
      exact rw_M_pairAt_74 E hQ hR hI 116 h
def RB_M_pairAt_53 (ρ : RS)   : Option Int32 := some (107)
set_option maxHeartbeats 4000000 in
set_option maxRecDepth 100000 in
theorem rw_M_pairAt_53 {X : CX} (E : EV X prog_13_method_20_code 4 "PlaceFinderModel" (some .int)) {μ0 μ : Mem} {b : Nat} {r : Int32} {ρ : RS} (hQ : RQ X 0 0 μ0 (some (vI r)) (ov b ρ μ)) (hR : xR X = { frames := 1, cells := 0, slots := 0, locals := 21 }) (hI : X.2.2.2.2.2.2.2.2.2.2.2.1.name = "pairAt")   (h : RB_M_pairAt_53 ρ   = some r) : WM X 4 53 [] [] 0 0 (ov b ρ μ) := by
  have h : (some (107)) = some r := h
  refine wm_bipush (x := 107) E dM_pairAt_53 (by decide) ?_
  exact wm_iret (rt := .int) E hQ (rqI0 h) rfl (by decide) (by decide) dM_pairAt_55
def RB_M_pairAt_41 (ρ : RS)  (v2 : Int32) (v3 : Int32) : Option Int32 := if v2 = 113 then if v3 = 117 then RB_M_pairAt_53 ρ  else RB_M_pairAt_56 ρ v2 v3 else RB_M_pairAt_56 ρ v2 v3
set_option maxHeartbeats 4000000 in
set_option maxRecDepth 100000 in
theorem rw_M_pairAt_41 {X : CX} (E : EV X prog_13_method_20_code 4 "PlaceFinderModel" (some .int)) {μ0 μ : Mem} {b : Nat} {r : Int32} {ρ : RS} (hQ : RQ X 0 0 μ0 (some (vI r)) (ov b ρ μ)) (hR : xR X = { frames := 1, cells := 0, slots := 0, locals := 21 }) (hI : X.2.2.2.2.2.2.2.2.2.2.2.1.name = "pairAt")  (v2 : Int32) (v3 : Int32) (h : RB_M_pairAt_41 ρ  v2 v3 = some r) : WM X 4 41 [(2, vI v2), (3, vI v3)] [] 0 0 (ov b ρ μ) := by
  have h : (if v2 = 113 then if v3 = 117 then RB_M_pairAt_53 ρ  else RB_M_pairAt_56 ρ v2 v3 else RB_M_pairAt_56 ρ v2 v3) = some r := h
  refine wm_iload_n E dM_pairAt_41 rfl (j := 0) rfl ?_
  refine wm_bipush (x := 113) E dM_pairAt_42 (by decide) ?_
  refine wm_icmp_ne (tgt := 56) E dM_pairAt_44 (by decide) (fun c44 => ?_) (fun c44 => ?_)
  · have h := (if_neg c44).symm.trans h
    refine wm_pick (lv' := [(2, vI v2), (3, vI v3)]) [0, 1] rfl ?_
    exact rw_M_pairAt_56 E hQ hR hI v2 v3 h
  · have h := (if_pos c44).symm.trans h
    refine wm_iload_n E dM_pairAt_47 rfl (j := 1) rfl ?_
    refine wm_bipush (x := 117) E dM_pairAt_48 (by decide) ?_
    refine wm_icmp_ne (tgt := 56) E dM_pairAt_50 (by decide) (fun c50 => ?_) (fun c50 => ?_)
    · have h := (if_neg c50).symm.trans h
      refine wm_pick (lv' := [(2, vI v2), (3, vI v3)]) [0, 1] rfl ?_
      exact rw_M_pairAt_56 E hQ hR hI v2 v3 h
    · have h := (if_pos c50).symm.trans h
      refine wm_pick (lv' := []) [] rfl ?_
      exact rw_M_pairAt_53 E hQ hR hI  h
def RB_M_pairAt_29 (ρ : RS)  (v2 : Int32) (v3 : Int32) : Option Int32 := if v2 = 99 then if v3 = 107 then RB_M_pairAt_53 ρ  else RB_M_pairAt_41 ρ v2 v3 else RB_M_pairAt_41 ρ v2 v3
set_option maxHeartbeats 4000000 in
set_option maxRecDepth 100000 in
theorem rw_M_pairAt_29 {X : CX} (E : EV X prog_13_method_20_code 4 "PlaceFinderModel" (some .int)) {μ0 μ : Mem} {b : Nat} {r : Int32} {ρ : RS} (hQ : RQ X 0 0 μ0 (some (vI r)) (ov b ρ μ)) (hR : xR X = { frames := 1, cells := 0, slots := 0, locals := 21 }) (hI : X.2.2.2.2.2.2.2.2.2.2.2.1.name = "pairAt")  (v2 : Int32) (v3 : Int32) (h : RB_M_pairAt_29 ρ  v2 v3 = some r) : WM X 4 29 [(2, vI v2), (3, vI v3)] [] 0 0 (ov b ρ μ) := by
  have h : (if v2 = 99 then if v3 = 107 then RB_M_pairAt_53 ρ  else RB_M_pairAt_41 ρ v2 v3 else RB_M_pairAt_41 ρ v2 v3) = some r := h
  refine wm_iload_n E dM_pairAt_29 rfl (j := 0) rfl ?_
  refine wm_bipush (x := 99) E dM_pairAt_30 (by decide) ?_
  refine wm_icmp_ne (tgt := 41) E dM_pairAt_32 (by decide) (fun c32 => ?_) (fun c32 => ?_)
  · have h := (if_neg c32).symm.trans h
    refine wm_pick (lv' := [(2, vI v2), (3, vI v3)]) [0, 1] rfl ?_
    exact rw_M_pairAt_41 E hQ hR hI v2 v3 h
  · have h := (if_pos c32).symm.trans h
    refine wm_iload_n E dM_pairAt_35 rfl (j := 1) rfl ?_
    refine wm_bipush (x := 107) E dM_pairAt_36 (by decide) ?_
    refine wm_icmp_eq (tgt := 53) E dM_pairAt_38 (by decide) (fun c38 => ?_) (fun c38 => ?_)
    · have h := (if_pos c38).symm.trans h
      refine wm_pick (lv' := []) [] rfl ?_
      exact rw_M_pairAt_53 E hQ hR hI  h
    · have h := (if_neg c38).symm.trans h
      refine wm_pick (lv' := [(2, vI v2), (3, vI v3)]) [0, 1] rfl ?_
      exact rw_M_pairAt_41 E hQ hR hI v2 v3 h
def R_M_pairAt (v1 : Int32) (ρ : RS) : Option Int32 := b1 (R_M_typedAt v1 (ρ)) (fun x2 => b1 (R_M_typedAt (v1 + 1) (ρ)) (fun x10 => if x2 = 112 then if x10 = 104 then some (102) else RB_M_pairAt_29 ρ x2 x10 else RB_M_pairAt_29 ρ x2 x10))
set_option maxHeartbeats 4000000 in
set_option maxRecDepth 100000 in
theorem RC_M_pairAt (l : Launch) (G : GG) (b : Nat) (ρ : RS) (μ : Mem) (v1 : Int32) (r : Int32) (h : R_M_pairAt v1 ρ = some r) : CT l G y_M_pairAt prog_13_method_20_code 4 (some .int) 1 0 0 21 (ov b ρ μ) [vR (some b), vI v1] (some (vI r)) (ov b ρ μ) := by
  refine wm_met (lv := [(0, vR (some b)), (1, vI v1)]) (by decide +kernel) (Nat.le_of_ble_eq_true rfl) rfl (fun X E hQ hR hI => ?_)
  have h : (b1 (R_M_typedAt v1 (ρ)) (fun x2 => b1 (R_M_typedAt (v1 + 1) (ρ)) (fun x10 => if x2 = 112 then if x10 = 104 then some (102) else RB_M_pairAt_29 ρ x2 x10 else RB_M_pairAt_29 ρ x2 x10))) = some r := h
  refine wm_aload_n E dM_pairAt_0 rfl (j := 0) rfl ?_
  refine wm_iload_n E dM_pairAt_1 rfl (j := 1) rfl ?_
  obtain ⟨x2, hc2, h⟩ := b1S h
  refine wm_cV (ci := 12) (As := [vI v1]) (st := []) E lk_M_175 rfl im_M_typedAt sl_M_typedAt (ov_rc _ _ _) (RC_M_typedAt (xl X) X.1 b (ρ) μ v1 _ hc2) rfl rfl (by rw [hR]; decide) (by rw [hR]; decide) (Nat.le_of_ble_eq_true rfl) dM_pairAt_2 ?_
  refine wm_istore_n (lv' := [(2, vI x2), (0, vR (some b)), (1, vI v1)]) E dM_pairAt_5 rfl (by decide) rfl ?_
  refine wm_aload_n E dM_pairAt_6 rfl (j := 1) rfl ?_
  refine wm_iload_n E dM_pairAt_7 rfl (j := 2) rfl ?_
  refine wm_iconst (x := 1) E dM_pairAt_8 (by decide) ?_
  refine wm_iadd E dM_pairAt_9 ?_
  obtain ⟨x10, hc10, h⟩ := b1S h
  refine wm_cV (ci := 12) (As := [vI (v1 + 1)]) (st := []) E lk_M_175 rfl im_M_typedAt sl_M_typedAt (ov_rc _ _ _) (RC_M_typedAt (xl X) X.1 b (ρ) μ (v1 + 1) _ hc10) rfl rfl (by rw [hR]; decide) (by rw [hR]; decide) (Nat.le_of_ble_eq_true rfl) dM_pairAt_10 ?_
  refine wm_istore_n (lv' := [(3, vI x10), (2, vI x2), (0, vR (some b)), (1, vI v1)]) E dM_pairAt_13 rfl (by decide) rfl ?_
  refine wm_iload_n E dM_pairAt_14 rfl (j := 1) rfl ?_
  refine wm_bipush (x := 112) E dM_pairAt_15 (by decide) ?_
  refine wm_icmp_ne (tgt := 29) E dM_pairAt_17 (by decide) (fun c17 => ?_) (fun c17 => ?_)
  · have h := (if_neg c17).symm.trans h
    refine wm_pick (lv' := [(2, vI x2), (3, vI x10)]) [1, 0] rfl ?_
    exact rw_M_pairAt_29 E hQ hR hI x2 x10 h
  · have h := (if_pos c17).symm.trans h
    refine wm_iload_n E dM_pairAt_20 rfl (j := 0) rfl ?_
    refine wm_bipush (x := 104) E dM_pairAt_21 (by decide) ?_
    refine wm_icmp_ne (tgt := 29) E dM_pairAt_23 (by decide) (fun c23 => ?_) (fun c23 => ?_)
    · have h := (if_neg c23).symm.trans h
      refine wm_pick (lv' := [(2, vI x2), (3, vI x10)]) [1, 0] rfl ?_
      exact rw_M_pairAt_29 E hQ hR hI x2 x10 h
    · have h := (if_pos c23).symm.trans h
      refine wm_bipush (x := 102) E dM_pairAt_26 (by decide) ?_
      exact wm_iret (rt := .int) E hQ (rqI0 h) rfl (by decide) (by decide) dM_pairAt_28
def RB_M_foldTyped_97 (k7 : Int32 → RS → Option (Unit × RS)) (v3 : Int32) (ρ : RS) : Option (Unit × RS) := k7 v3 (ρ)
set_option maxHeartbeats 4000000 in
set_option maxRecDepth 100000 in
theorem rw_M_foldTyped_97 {X : CX} (E : EV X prog_13_method_21_code 4 "PlaceFinderModel" none) {μ0 μ : Mem} {b : Nat} {r : Unit} {ρ' : RS} (hQ : RQ X 0 0 μ0 none (ov b ρ' μ)) (hR : xR X = { frames := 2, cells := 0, slots := 0, locals := 44 }) (hI : X.2.2.2.2.2.2.2.2.2.2.2.1.name = "foldTyped") (hW : mW μ ≤ b) (k7 : Int32 → RS → Option (Unit × RS)) (hk7 : ∀ (v1 : Int32) (ρ : RS), k7 v1 ρ = some (r, ρ') → WM X 4 7 [(0, vR (some b)), (1, vI v1)] [] 0 0 (ov b ρ μ)) (v3 : Int32) (ρ : RS) (h : RB_M_foldTyped_97 k7 v3 ρ = some (r, ρ')) : WM X 4 97 [(0, vR (some b)), (3, vI v3)] [] 0 0 (ov b ρ μ) := by
  have h : (k7 v3 (ρ)) = some (r, ρ') := h
  refine wm_iload_n E dM_foldTyped_97 rfl (j := 1) rfl ?_
  refine wm_istore_n (lv' := [(1, vI v3), (0, vR (some b)), (3, vI v3)]) E dM_foldTyped_98 rfl (by decide) rfl ?_
  refine wm_goto (tgt := 7) E dM_foldTyped_99 (by decide) ?_
  refine wm_pick (lv' := [(0, vR (some b)), (1, vI v3)]) [1, 0] rfl ?_
  exact hk7 v3 (ρ) h
def RB_M_foldTyped_77 (k7 : Int32 → RS → Option (Unit × RS)) (v2 : Int32) (v3 : Int32) (ρ : RS) : Option (Unit × RS) := b1 (rsI ρ 39 10 (ri ρ 38) v2) (fun ρ86 => b0 (rpI ρ86 38 ((ri ρ86 38) + 1)) (fun ρ94 => RB_M_foldTyped_97 k7 v3 (ρ94)))
set_option maxHeartbeats 4000000 in
set_option maxRecDepth 100000 in
theorem rw_M_foldTyped_77 {X : CX} (E : EV X prog_13_method_21_code 4 "PlaceFinderModel" none) {μ0 μ : Mem} {b : Nat} {r : Unit} {ρ' : RS} (hQ : RQ X 0 0 μ0 none (ov b ρ' μ)) (hR : xR X = { frames := 2, cells := 0, slots := 0, locals := 44 }) (hI : X.2.2.2.2.2.2.2.2.2.2.2.1.name = "foldTyped") (hW : mW μ ≤ b) (k7 : Int32 → RS → Option (Unit × RS)) (hk7 : ∀ (v1 : Int32) (ρ : RS), k7 v1 ρ = some (r, ρ') → WM X 4 7 [(0, vR (some b)), (1, vI v1)] [] 0 0 (ov b ρ μ)) (v2 : Int32) (v3 : Int32) (ρ : RS) (h : RB_M_foldTyped_77 k7 v2 v3 ρ = some (r, ρ')) : WM X 4 77 [(0, vR (some b)), (2, vI v2), (3, vI v3)] [] 0 0 (ov b ρ μ) := by
  have h : (b1 (rsI ρ 39 10 (ri ρ 38) v2) (fun ρ86 => b0 (rpI ρ86 38 ((ri ρ86 38) + 1)) (fun ρ94 => RB_M_foldTyped_97 k7 v3 (ρ94)))) = some (r, ρ') := h
  refine wm_aload_n E dM_foldTyped_77 rfl (j := 0) rfl ?_
  refine wm_rget (v := vR (some (b + 34))) E fd_M_110 rfl dM_foldTyped_78 ?_
  refine wm_aload_n E dM_foldTyped_81 rfl (j := 0) rfl ?_
  refine wm_rget (v := vI (ri ρ 38)) E fd_M_179 rfl dM_foldTyped_82 ?_
  refine wm_iload_n E dM_foldTyped_85 rfl (j := 1) rfl ?_
  refine wm_riast E (by decide) rfl rfl (by decide) (by decide) hW h dM_foldTyped_86 (fun ρ86 h => ?_)
  refine wm_aload_n E dM_foldTyped_87 rfl (j := 0) rfl ?_
  refine wm_dup E dM_foldTyped_88 rfl ?_
  refine wm_rget (v := vI (ri ρ86 38)) E fd_M_179 rfl dM_foldTyped_89 ?_
  refine wm_iconst (x := 1) E dM_foldTyped_92 (by decide) ?_
  refine wm_iadd E dM_foldTyped_93 ?_
  refine wm_rpI E fp_M_179 (fun q => by cases q) rfl (by decide) hW dM_foldTyped_94 ?_
  refine wm_rlet h (fun ρ94 h => ?_)
  refine wm_pick (lv' := [(0, vR (some b)), (3, vI v3)]) [0, 2] rfl ?_
  exact rw_M_foldTyped_97 E hQ hR hI hW k7 hk7 v3 (ρ94) h
def RB_M_foldTyped_55 (k7 : Int32 → RS → Option (Unit × RS)) (v2 : Int32) (v3 : Int32) (ρ : RS) : Option (Unit × RS) := if (ri ρ 38) = 0 then RB_M_foldTyped_77 k7 v2 v3 (ρ) else b1 (rgI ρ 39 10 ((ri ρ 38) - 1)) (fun x72 => if x72 = v2 then RB_M_foldTyped_97 k7 v3 (ρ) else RB_M_foldTyped_77 k7 v2 v3 (ρ))
set_option maxHeartbeats 4000000 in
set_option maxRecDepth 100000 in
theorem rw_M_foldTyped_55 {X : CX} (E : EV X prog_13_method_21_code 4 "PlaceFinderModel" none) {μ0 μ : Mem} {b : Nat} {r : Unit} {ρ' : RS} (hQ : RQ X 0 0 μ0 none (ov b ρ' μ)) (hR : xR X = { frames := 2, cells := 0, slots := 0, locals := 44 }) (hI : X.2.2.2.2.2.2.2.2.2.2.2.1.name = "foldTyped") (hW : mW μ ≤ b) (k7 : Int32 → RS → Option (Unit × RS)) (hk7 : ∀ (v1 : Int32) (ρ : RS), k7 v1 ρ = some (r, ρ') → WM X 4 7 [(0, vR (some b)), (1, vI v1)] [] 0 0 (ov b ρ μ)) (v2 : Int32) (v3 : Int32) (ρ : RS) (h : RB_M_foldTyped_55 k7 v2 v3 ρ = some (r, ρ')) : WM X 4 55 [(0, vR (some b)), (2, vI v2), (3, vI v3)] [] 0 0 (ov b ρ μ) := by
  have h : (if (ri ρ 38) = 0 then RB_M_foldTyped_77 k7 v2 v3 (ρ) else b1 (rgI ρ 39 10 ((ri ρ 38) - 1)) (fun x72 => if x72 = v2 then RB_M_foldTyped_97 k7 v3 (ρ) else RB_M_foldTyped_77 k7 v2 v3 (ρ))) = some (r, ρ') := h
  refine wm_aload_n E dM_foldTyped_55 rfl (j := 0) rfl ?_
  refine wm_rget (v := vI (ri ρ 38)) E fd_M_179 rfl dM_foldTyped_56 ?_
  refine wm_if_eq (tgt := 77) E dM_foldTyped_59 (by decide) (fun c59 => ?_) (fun c59 => ?_)
  · have h := (if_pos c59).symm.trans h
    refine wm_pick (lv' := [(0, vR (some b)), (2, vI v2), (3, vI v3)]) [0, 1, 2] rfl ?_
    exact rw_M_foldTyped_77 E hQ hR hI hW k7 hk7 v2 v3 (ρ) h
  · have h := (if_neg c59).symm.trans h
    refine wm_aload_n E dM_foldTyped_62 rfl (j := 0) rfl ?_
    refine wm_rget (v := vR (some (b + 34))) E fd_M_110 rfl dM_foldTyped_63 ?_
    refine wm_aload_n E dM_foldTyped_66 rfl (j := 0) rfl ?_
    refine wm_rget (v := vI (ri ρ 38)) E fd_M_179 rfl dM_foldTyped_67 ?_
    refine wm_iconst (x := 1) E dM_foldTyped_70 (by decide) ?_
    refine wm_isub E dM_foldTyped_71 ?_
    refine wm_riald E (by decide) rfl rfl (by decide) (by decide) h dM_foldTyped_72 (fun x72 h => ?_)
    refine wm_iload_n E dM_foldTyped_73 rfl (j := 1) rfl ?_
    refine wm_icmp_eq (tgt := 97) E dM_foldTyped_74 (by decide) (fun c74 => ?_) (fun c74 => ?_)
    · have h := (if_pos c74).symm.trans h
      refine wm_pick (lv' := [(0, vR (some b)), (3, vI v3)]) [0, 2] rfl ?_
      exact rw_M_foldTyped_97 E hQ hR hI hW k7 hk7 v3 (ρ) h
    · have h := (if_neg c74).symm.trans h
      refine wm_pick (lv' := [(0, vR (some b)), (2, vI v2), (3, vI v3)]) [0, 1, 2] rfl ?_
      exact rw_M_foldTyped_77 E hQ hR hI hW k7 hk7 v2 v3 (ρ) h
def RB_M_foldTyped_40 (k7 : Int32 → RS → Option (Unit × RS)) : Nat → Int32 → Int32 → RS → Option (Unit × RS)
  | 0, _, _, _ => none
  | n + 1, v2, v3, ρ => b1 (R_M_typedAt v3 (ρ)) (fun x42 => if x42 = v2 then (fun v2 v3 ρ => RB_M_foldTyped_40 k7 n v2 v3 ρ) v2 (v3 + 1) (ρ) else RB_M_foldTyped_55 k7 v2 v3 (ρ))
set_option maxHeartbeats 4000000 in
set_option maxRecDepth 100000 in
theorem rw_M_foldTyped_40 {X : CX} (E : EV X prog_13_method_21_code 4 "PlaceFinderModel" none) {μ0 μ : Mem} {b : Nat} {r : Unit} {ρ' : RS} (hQ : RQ X 0 0 μ0 none (ov b ρ' μ)) (hR : xR X = { frames := 2, cells := 0, slots := 0, locals := 44 }) (hI : X.2.2.2.2.2.2.2.2.2.2.2.1.name = "foldTyped") (hW : mW μ ≤ b) (k7 : Int32 → RS → Option (Unit × RS)) (hk7 : ∀ (v1 : Int32) (ρ : RS), k7 v1 ρ = some (r, ρ') → WM X 4 7 [(0, vR (some b)), (1, vI v1)] [] 0 0 (ov b ρ μ)) (n : Nat) : ∀ (v2 : Int32) (v3 : Int32) (ρ : RS) (h : RB_M_foldTyped_40 k7 n v2 v3 ρ = some (r, ρ')), WM X 4 40 [(0, vR (some b)), (2, vI v2), (3, vI v3)] [] 0 0 (ov b ρ μ) := by
  induction n with
  | zero => intro v2 v3 ρ h; cases h
  | succ n ih =>
    intro v2 v3 ρ h
    have h : (b1 (R_M_typedAt v3 (ρ)) (fun x42 => if x42 = v2 then (fun v2 v3 ρ => RB_M_foldTyped_40 k7 n v2 v3 ρ) v2 (v3 + 1) (ρ) else RB_M_foldTyped_55 k7 v2 v3 (ρ))) = some (r, ρ') := h
    refine wm_aload_n E dM_foldTyped_40 rfl (j := 0) rfl ?_
    refine wm_iload_n E dM_foldTyped_41 rfl (j := 2) rfl ?_
    obtain ⟨x42, hc42, h⟩ := b1S h
    refine wm_cV (ci := 12) (As := [vI v3]) (st := []) E lk_M_175 rfl im_M_typedAt sl_M_typedAt (ov_rc _ _ _) (RC_M_typedAt (xl X) X.1 b (ρ) μ v3 _ hc42) rfl rfl (by rw [hR]; decide) (by rw [hR]; decide) (Nat.le_of_ble_eq_true rfl) dM_foldTyped_42 ?_
    refine wm_iload_n E dM_foldTyped_45 rfl (j := 1) rfl ?_
    refine wm_icmp_ne (tgt := 55) E dM_foldTyped_46 (by decide) (fun c46 => ?_) (fun c46 => ?_)
    · have h := (if_neg c46).symm.trans h
      refine wm_pick (lv' := [(0, vR (some b)), (2, vI v2), (3, vI v3)]) [0, 1, 2] rfl ?_
      exact rw_M_foldTyped_55 E hQ hR hI hW k7 hk7 v2 v3 (ρ) h
    · have h := (if_pos c46).symm.trans h
      refine wm_iinc (lv' := [(3, vI (v3 + 1)), (0, vR (some b)), (2, vI v2)]) (d := 1) E dM_foldTyped_49 (by decide) (j := 2) rfl (by decide) rfl ?_
      refine wm_goto (tgt := 40) E dM_foldTyped_52 (by decide) ?_
      refine wm_pick (lv' := [(0, vR (some b)), (2, vI v2), (3, vI (v3 + 1))]) [1, 2, 0] rfl ?_
      exact ih v2 (v3 + 1) (ρ) h
def RB_M_foldTyped_7  : Nat → Int32 → RS → Option (Unit × RS)
  | 0, _, _ => none
  | n + 1, v1, ρ => if (ri ρ 21) ≤ v1 then some ((), ρ) else b1 (R_M_pairAt v1 (ρ)) (fun x17 => b0 (v1 + 2) (fun x24 => if x17 = 0 then b1 (rgI ρ 22 10 v1) (fun x34 => b0 (v1 + 1) (fun x39 => RB_M_foldTyped_40 (fun v1 ρ => RB_M_foldTyped_7 n v1 ρ) fu x34 x39 (ρ))) else RB_M_foldTyped_55 (fun v1 ρ => RB_M_foldTyped_7 n v1 ρ) x17 x24 (ρ)))
set_option maxHeartbeats 4000000 in
set_option maxRecDepth 100000 in
theorem rw_M_foldTyped_7 {X : CX} (E : EV X prog_13_method_21_code 4 "PlaceFinderModel" none) {μ0 μ : Mem} {b : Nat} {r : Unit} {ρ' : RS} (hQ : RQ X 0 0 μ0 none (ov b ρ' μ)) (hR : xR X = { frames := 2, cells := 0, slots := 0, locals := 44 }) (hI : X.2.2.2.2.2.2.2.2.2.2.2.1.name = "foldTyped") (hW : mW μ ≤ b)  (n : Nat) : ∀ (v1 : Int32) (ρ : RS) (h : RB_M_foldTyped_7  n v1 ρ = some (r, ρ')), WM X 4 7 [(0, vR (some b)), (1, vI v1)] [] 0 0 (ov b ρ μ) := by
  induction n with
  | zero => intro v1 ρ h; cases h
  | succ n ih =>
    intro v1 ρ h
    have h : (if (ri ρ 21) ≤ v1 then some ((), ρ) else b1 (R_M_pairAt v1 (ρ)) (fun x17 => b0 (v1 + 2) (fun x24 => if x17 = 0 then b1 (rgI ρ 22 10 v1) (fun x34 => b0 (v1 + 1) (fun x39 => RB_M_foldTyped_40 (fun v1 ρ => RB_M_foldTyped_7 n v1 ρ) fu x34 x39 (ρ))) else RB_M_foldTyped_55 (fun v1 ρ => RB_M_foldTyped_7 n v1 ρ) x17 x24 (ρ)))) = some (r, ρ') := h
    refine wm_iload_n E dM_foldTyped_7 rfl (j := 1) rfl ?_
    refine wm_aload_n E dM_foldTyped_8 rfl (j := 0) rfl ?_
    refine wm_rget (v := vI (ri ρ 21)) E fd_M_172 rfl dM_foldTyped_9 ?_
    refine wm_icmp_ge (tgt := 102) E dM_foldTyped_12 (by decide) (fun c12 => ?_) (fun c12 => ?_)
    · have h := (if_pos c12).symm.trans h
      exact wm_vret E hQ rfl (rrM h) (by decide) (by decide) dM_foldTyped_102
    · have h := (if_neg c12).symm.trans h
      refine wm_aload_n E dM_foldTyped_15 rfl (j := 0) rfl ?_
      refine wm_iload_n E dM_foldTyped_16 rfl (j := 1) rfl ?_
      obtain ⟨x17, hc17, h⟩ := b1S h
      refine wm_cV (ci := 12) (As := [vI v1]) (st := []) E lk_M_182 rfl im_M_pairAt sl_M_pairAt (ov_rc _ _ _) (RC_M_pairAt (xl X) X.1 b (ρ) μ v1 _ hc17) rfl rfl (by rw [hR]; decide) (by rw [hR]; decide) (Nat.le_of_ble_eq_true rfl) dM_foldTyped_17 ?_
      refine wm_istore_n (lv' := [(2, vI x17), (0, vR (some b)), (1, vI v1)]) E dM_foldTyped_20 rfl (by decide) rfl ?_
      refine wm_iload_n E dM_foldTyped_21 rfl (j := 2) rfl ?_
      refine wm_iconst (x := 2) E dM_foldTyped_22 (by decide) ?_
      refine wm_iadd E dM_foldTyped_23 ?_
      refine wm_letI h (fun x24 h => ?_)
      refine wm_istore_n (lv' := [(3, vI x24), (2, vI x17), (0, vR (some b)), (1, vI v1)]) E dM_foldTyped_24 rfl (by decide) rfl ?_
      refine wm_iload_n E dM_foldTyped_25 rfl (j := 1) rfl ?_
      refine wm_if_ne (tgt := 55) E dM_foldTyped_26 (by decide) (fun c26 => ?_) (fun c26 => ?_)
      · have h := (if_neg c26).symm.trans h
        refine wm_pick (lv' := [(0, vR (some b)), (2, vI x17), (3, vI x24)]) [2, 1, 0] rfl ?_
        exact rw_M_foldTyped_55 E hQ hR hI hW (fun v1 ρ => RB_M_foldTyped_7 n v1 ρ) ih x17 x24 (ρ) h
      · have h := (if_pos c26).symm.trans h
        refine wm_aload_n E dM_foldTyped_29 rfl (j := 2) rfl ?_
        refine wm_rget (v := vR (some (b + 19))) E fd_M_64 rfl dM_foldTyped_30 ?_
        refine wm_iload_n E dM_foldTyped_33 rfl (j := 3) rfl ?_
        refine wm_riald E (by decide) rfl rfl (by decide) (by decide) h dM_foldTyped_34 (fun x34 h => ?_)
        refine wm_istore_n (lv' := [(2, vI x34), (3, vI x24), (0, vR (some b)), (1, vI v1)]) E dM_foldTyped_35 rfl (by decide) rfl ?_
        refine wm_iload_n E dM_foldTyped_36 rfl (j := 3) rfl ?_
        refine wm_iconst (x := 1) E dM_foldTyped_37 (by decide) ?_
        refine wm_iadd E dM_foldTyped_38 ?_
        refine wm_letI h (fun x39 h => ?_)
        refine wm_istore_n (lv' := [(3, vI x39), (2, vI x34), (0, vR (some b)), (1, vI v1)]) E dM_foldTyped_39 rfl (by decide) rfl ?_
        refine wm_pick (lv' := [(0, vR (some b)), (2, vI x34), (3, vI x39)]) [2, 1, 0] rfl ?_
        exact rw_M_foldTyped_40 E hQ hR hI hW (fun v1 ρ => RB_M_foldTyped_7 n v1 ρ) ih fu x34 x39 (ρ) h
def R_M_foldTyped  (ρ : RS) : Option (Unit × RS) := b0 (rpI ρ 38 0) (fun ρ2 => RB_M_foldTyped_7 fu 0 (ρ2))
set_option maxHeartbeats 4000000 in
set_option maxRecDepth 100000 in
theorem RC_M_foldTyped (l : Launch) (G : GG) (b : Nat) (ρ : RS) (μ : Mem) (hW : mW μ ≤ b)  (r : Unit) (ρ' : RS) (h : R_M_foldTyped  ρ = some (r, ρ')) : CT l G y_M_foldTyped prog_13_method_21_code 4 none 2 0 0 44 (ov b ρ μ) [vR (some b)] none (ov b ρ' μ) := by
  refine wm_met (lv := [(0, vR (some b))]) (by decide +kernel) (Nat.le_of_ble_eq_true rfl) rfl (fun X E hQ hR hI => ?_)
  have h : (b0 (rpI ρ 38 0) (fun ρ2 => RB_M_foldTyped_7 fu 0 (ρ2))) = some (r, ρ') := h
  refine wm_aload_n E dM_foldTyped_0 rfl (j := 0) rfl ?_
  refine wm_iconst (x := 0) E dM_foldTyped_1 (by decide) ?_
  refine wm_rpI E fp_M_179 (fun q => by cases q) rfl (by decide) hW dM_foldTyped_2 ?_
  refine wm_rlet h (fun ρ2 h => ?_)
  refine wm_iconst (x := 0) E dM_foldTyped_5 (by decide) ?_
  refine wm_istore_n (lv' := [(1, vI 0), (0, vR (some b))]) E dM_foldTyped_6 rfl (by decide) rfl ?_
  refine wm_pick (lv' := [(0, vR (some b)), (1, vI 0)]) [1, 0] rfl ?_
  exact rw_M_foldTyped_7 E hQ hR hI hW fu 0 (ρ2) h
def RB_M_foldName_12  : Nat → Int32 → Int32 → RS → Option (Unit × RS)
  | 0, _, _, _ => none
  | n + 1, v1, v2, ρ => if (ri ρ 38) ≤ v2 then some ((), ρ) else b1 (rgI ρ 13 600 ((10 * v1) + v2)) (fun x35 => b1 (rsI ρ 39 10 v2 x35) (fun ρ36 => (fun v1 v2 ρ => RB_M_foldName_12 n v1 v2 ρ) v1 (v2 + 1) (ρ36)))
set_option maxHeartbeats 4000000 in
set_option maxRecDepth 100000 in
theorem rw_M_foldName_12 {X : CX} (E : EV X prog_13_method_22_code 3 "PlaceFinderModel" none) {μ0 μ : Mem} {b : Nat} {r : Unit} {ρ' : RS} (hQ : RQ X 0 0 μ0 none (ov b ρ' μ)) (hR : xR X = { frames := 0, cells := 0, slots := 0, locals := 0 }) (hI : X.2.2.2.2.2.2.2.2.2.2.2.1.name = "foldName") (hW : mW μ ≤ b)  (n : Nat) : ∀ (v1 : Int32) (v2 : Int32) (ρ : RS) (h : RB_M_foldName_12  n v1 v2 ρ = some (r, ρ')), WM X 3 12 [(0, vR (some b)), (1, vI v1), (2, vI v2)] [] 0 0 (ov b ρ μ) := by
  induction n with
  | zero => intro v1 v2 ρ h; cases h
  | succ n ih =>
    intro v1 v2 ρ h
    have h : (if (ri ρ 38) ≤ v2 then some ((), ρ) else b1 (rgI ρ 13 600 ((10 * v1) + v2)) (fun x35 => b1 (rsI ρ 39 10 v2 x35) (fun ρ36 => (fun v1 v2 ρ => RB_M_foldName_12 n v1 v2 ρ) v1 (v2 + 1) (ρ36)))) = some (r, ρ') := h
    refine wm_iload_n E dM_foldName_12 rfl (j := 2) rfl ?_
    refine wm_aload_n E dM_foldName_13 rfl (j := 0) rfl ?_
    refine wm_rget (v := vI (ri ρ 38)) E fd_M_179 rfl dM_foldName_14 ?_
    refine wm_icmp_ge (tgt := 43) E dM_foldName_17 (by decide) (fun c17 => ?_) (fun c17 => ?_)
    · have h := (if_pos c17).symm.trans h
      exact wm_vret E hQ rfl (rrM h) (by decide) (by decide) dM_foldName_43
    · have h := (if_neg c17).symm.trans h
      refine wm_aload_n E dM_foldName_20 rfl (j := 0) rfl ?_
      refine wm_rget (v := vR (some (b + 34))) E fd_M_110 rfl dM_foldName_21 ?_
      refine wm_iload_n E dM_foldName_24 rfl (j := 2) rfl ?_
      refine wm_aload_n E dM_foldName_25 rfl (j := 0) rfl ?_
      refine wm_rget (v := vR (some (b + 12))) E fd_M_43 rfl dM_foldName_26 ?_
      refine wm_bipush (x := 10) E dM_foldName_29 (by decide) ?_
      refine wm_iload_n E dM_foldName_31 rfl (j := 1) rfl ?_
      refine wm_imul E dM_foldName_32 ?_
      refine wm_iload_n E dM_foldName_33 rfl (j := 2) rfl ?_
      refine wm_iadd E dM_foldName_34 ?_
      refine wm_riald E (by decide) rfl rfl (by decide) (by decide) h dM_foldName_35 (fun x35 h => ?_)
      refine wm_riast E (by decide) rfl rfl (by decide) (by decide) hW h dM_foldName_36 (fun ρ36 h => ?_)
      refine wm_iinc (lv' := [(2, vI (v2 + 1)), (0, vR (some b)), (1, vI v1)]) (d := 1) E dM_foldName_37 (by decide) (j := 2) rfl (by decide) rfl ?_
      refine wm_goto (tgt := 12) E dM_foldName_40 (by decide) ?_
      refine wm_pick (lv' := [(0, vR (some b)), (1, vI v1), (2, vI (v2 + 1))]) [1, 2, 0] rfl ?_
      exact ih v1 (v2 + 1) (ρ36) h
def R_M_foldName (v1 : Int32) (ρ : RS) : Option (Unit × RS) := b1 (rgI ρ 12 60 v1) (fun x6 => b0 (rpI ρ 38 x6) (fun ρ7 => RB_M_foldName_12 fu v1 0 (ρ7)))
set_option maxHeartbeats 4000000 in
set_option maxRecDepth 100000 in
theorem RC_M_foldName (l : Launch) (G : GG) (b : Nat) (ρ : RS) (μ : Mem) (hW : mW μ ≤ b) (v1 : Int32) (r : Unit) (ρ' : RS) (h : R_M_foldName v1 ρ = some (r, ρ')) : CT l G y_M_foldName prog_13_method_22_code 3 none 0 0 0 0 (ov b ρ μ) [vR (some b), vI v1] none (ov b ρ' μ) := by
  refine wm_met (lv := [(0, vR (some b)), (1, vI v1)]) (by decide +kernel) (Nat.le_of_ble_eq_true rfl) rfl (fun X E hQ hR hI => ?_)
  have h : (b1 (rgI ρ 12 60 v1) (fun x6 => b0 (rpI ρ 38 x6) (fun ρ7 => RB_M_foldName_12 fu v1 0 (ρ7)))) = some (r, ρ') := h
  refine wm_aload_n E dM_foldName_0 rfl (j := 0) rfl ?_
  refine wm_aload_n E dM_foldName_1 rfl (j := 0) rfl ?_
  refine wm_rget (v := vR (some (b + 11))) E fd_M_40 rfl dM_foldName_2 ?_
  refine wm_iload_n E dM_foldName_5 rfl (j := 1) rfl ?_
  refine wm_riald E (by decide) rfl rfl (by decide) (by decide) h dM_foldName_6 (fun x6 h => ?_)
  refine wm_rpI E fp_M_179 (fun q => by cases q) rfl (by decide) hW dM_foldName_7 ?_
  refine wm_rlet h (fun ρ7 h => ?_)
  refine wm_iconst (x := 0) E dM_foldName_10 (by decide) ?_
  refine wm_istore_n (lv' := [(2, vI 0), (0, vR (some b)), (1, vI v1)]) E dM_foldName_11 rfl (by decide) rfl ?_
  refine wm_pick (lv' := [(0, vR (some b)), (1, vI v1), (2, vI 0)]) [1, 2, 0] rfl ?_
  exact rw_M_foldName_12 E hQ hR hI hW fu v1 0 (ρ7) h
def RB_M_classOf_24   : Option Int32 := some (1)
set_option maxHeartbeats 4000000 in
set_option maxRecDepth 100000 in
theorem rw_M_classOf_24 {X : CX} (E : EV X prog_13_method_23_code 1 "PlaceFinderModel" (some .int)) {μ0 μ : Mem} {r : Int32} (hQ : RQ X 0 0 μ0 (some (vI r)) μ) (hR : xR X = { frames := 0, cells := 0, slots := 0, locals := 0 }) (hI : X.2.2.2.2.2.2.2.2.2.2.2.1.name = "classOf")   (h : RB_M_classOf_24   = some r) : WM X 1 24 [] [] 0 0 μ := by
  have h : (some (1)) = some r := h
  refine wm_iconst (x := 1) E dM_classOf_24 (by decide) ?_
  exact wm_iret (rt := .int) E hQ (rqI0 h) rfl (by decide) (by decide) dM_classOf_25
def RB_M_classOf_74   : Option Int32 := some (2)
set_option maxHeartbeats 4000000 in
set_option maxRecDepth 100000 in
theorem rw_M_classOf_74 {X : CX} (E : EV X prog_13_method_23_code 1 "PlaceFinderModel" (some .int)) {μ0 μ : Mem} {r : Int32} (hQ : RQ X 0 0 μ0 (some (vI r)) μ) (hR : xR X = { frames := 0, cells := 0, slots := 0, locals := 0 }) (hI : X.2.2.2.2.2.2.2.2.2.2.2.1.name = "classOf")   (h : RB_M_classOf_74   = some r) : WM X 1 74 [] [] 0 0 μ := by
  have h : (some (2)) = some r := h
  refine wm_iconst (x := 2) E dM_classOf_74 (by decide) ?_
  exact wm_iret (rt := .int) E hQ (rqI0 h) rfl (by decide) (by decide) dM_classOf_75
def RB_M_classOf_88   : Option Int32 := some (3)
set_option maxHeartbeats 4000000 in
set_option maxRecDepth 100000 in
theorem rw_M_classOf_88 {X : CX} (E : EV X prog_13_method_23_code 1 "PlaceFinderModel" (some .int)) {μ0 μ : Mem} {r : Int32} (hQ : RQ X 0 0 μ0 (some (vI r)) μ) (hR : xR X = { frames := 0, cells := 0, slots := 0, locals := 0 }) (hI : X.2.2.2.2.2.2.2.2.2.2.2.1.name = "classOf")   (h : RB_M_classOf_88   = some r) : WM X 1 88 [] [] 0 0 μ := by
  have h : (some (3)) = some r := h
  refine wm_iconst (x := 3) E dM_classOf_88 (by decide) ?_
  exact wm_iret (rt := .int) E hQ (rqI0 h) rfl (by decide) (by decide) dM_classOf_89
def RB_M_classOf_110   : Option Int32 := some (5)
set_option maxHeartbeats 4000000 in
set_option maxRecDepth 100000 in
theorem rw_M_classOf_110 {X : CX} (E : EV X prog_13_method_23_code 1 "PlaceFinderModel" (some .int)) {μ0 μ : Mem} {r : Int32} (hQ : RQ X 0 0 μ0 (some (vI r)) μ) (hR : xR X = { frames := 0, cells := 0, slots := 0, locals := 0 }) (hI : X.2.2.2.2.2.2.2.2.2.2.2.1.name = "classOf")   (h : RB_M_classOf_110   = some r) : WM X 1 110 [] [] 0 0 μ := by
  have h : (some (5)) = some r := h
  refine wm_iconst (x := 5) E dM_classOf_110 (by decide) ?_
  exact wm_iret (rt := .int) E hQ (rqI0 h) rfl (by decide) (by decide) dM_classOf_111
def RB_M_classOf_124  (s0 : Int32) : Option Int32 := some (s0)
set_option maxHeartbeats 4000000 in
set_option maxRecDepth 100000 in
theorem rw_M_classOf_124 {X : CX} (E : EV X prog_13_method_23_code 1 "PlaceFinderModel" (some .int)) {μ0 μ : Mem} {r : Int32} (hQ : RQ X 0 0 μ0 (some (vI r)) μ) (hR : xR X = { frames := 0, cells := 0, slots := 0, locals := 0 }) (hI : X.2.2.2.2.2.2.2.2.2.2.2.1.name = "classOf")  (s0 : Int32) (h : RB_M_classOf_124  s0 = some r) : WM X 1 124 [] [vI s0] 0 0 μ := by
  have h : (some (s0)) = some r := h
  exact wm_iret (rt := .int) E hQ (rqI0 h) rfl (by decide) (by decide) dM_classOf_124
def R_M_classOf (v0 : Int32) : Option Int32 := if v0 = 98 then RB_M_classOf_24  else if v0 = 102 then RB_M_classOf_24  else if v0 = 112 then RB_M_classOf_24  else if v0 = 118 then RB_M_classOf_24  else if v0 = 99 then RB_M_classOf_74  else if v0 = 103 then RB_M_classOf_74  else if v0 = 106 then RB_M_classOf_74  else if v0 = 107 then RB_M_classOf_74  else if v0 = 113 then RB_M_classOf_74  else if v0 = 115 then RB_M_classOf_74  else if v0 = 120 then RB_M_classOf_74  else if v0 = 122 then RB_M_classOf_74  else if v0 = 100 then RB_M_classOf_88  else if v0 = 116 then RB_M_classOf_88  else if v0 = 108 then some (4) else if v0 = 109 then RB_M_classOf_110  else if v0 = 110 then RB_M_classOf_110  else if v0 = 114 then RB_M_classOf_124 6 else RB_M_classOf_124 0
set_option maxHeartbeats 4000000 in
set_option maxRecDepth 100000 in
theorem RC_M_classOf (l : Launch) (G : GG) (v0 : Int32) (μ : Mem) (r : Int32) (h : R_M_classOf v0 = some r) : CT l G y_M_classOf prog_13_method_23_code 1 (some .int) 0 0 0 0 μ [vI v0] (some (vI r)) μ := by
  refine wm_met (lv := [(0, vI v0)]) (by decide +kernel) (Nat.le_of_ble_eq_true rfl) rfl (fun X E hQ hR hI => ?_)
  have h : (if v0 = 98 then RB_M_classOf_24  else if v0 = 102 then RB_M_classOf_24  else if v0 = 112 then RB_M_classOf_24  else if v0 = 118 then RB_M_classOf_24  else if v0 = 99 then RB_M_classOf_74  else if v0 = 103 then RB_M_classOf_74  else if v0 = 106 then RB_M_classOf_74  else if v0 = 107 then RB_M_classOf_74  else if v0 = 113 then RB_M_classOf_74  else if v0 = 115 then RB_M_classOf_74  else if v0 = 120 then RB_M_classOf_74  else if v0 = 122 then RB_M_classOf_74  else if v0 = 100 then RB_M_classOf_88  else if v0 = 116 then RB_M_classOf_88  else if v0 = 108 then some (4) else if v0 = 109 then RB_M_classOf_110  else if v0 = 110 then RB_M_classOf_110  else if v0 = 114 then RB_M_classOf_124 6 else RB_M_classOf_124 0) = some r := h
  refine wm_iload_n E dM_classOf_0 rfl (j := 0) rfl ?_
  refine wm_bipush (x := 98) E dM_classOf_1 (by decide) ?_
  refine wm_icmp_eq (tgt := 24) E dM_classOf_3 (by decide) (fun c3 => ?_) (fun c3 => ?_)
  · have h := (if_pos c3).symm.trans h
    refine wm_pick (lv' := []) [] rfl ?_
    exact rw_M_classOf_24 E hQ hR hI  h
  · have h := (if_neg c3).symm.trans h
    refine wm_iload_n E dM_classOf_6 rfl (j := 0) rfl ?_
    refine wm_bipush (x := 102) E dM_classOf_7 (by decide) ?_
    refine wm_icmp_eq (tgt := 24) E dM_classOf_9 (by decide) (fun c9 => ?_) (fun c9 => ?_)
    · have h := (if_pos c9).symm.trans h
      refine wm_pick (lv' := []) [] rfl ?_
      exact rw_M_classOf_24 E hQ hR hI  h
    · have h := (if_neg c9).symm.trans h
      refine wm_iload_n E dM_classOf_12 rfl (j := 0) rfl ?_
      refine wm_bipush (x := 112) E dM_classOf_13 (by decide) ?_
      refine wm_icmp_eq (tgt := 24) E dM_classOf_15 (by decide) (fun c15 => ?_) (fun c15 => ?_)
      · have h := (if_pos c15).symm.trans h
        refine wm_pick (lv' := []) [] rfl ?_
        exact rw_M_classOf_24 E hQ hR hI  h
      · have h := (if_neg c15).symm.trans h
        refine wm_iload_n E dM_classOf_18 rfl (j := 0) rfl ?_
        refine wm_bipush (x := 118) E dM_classOf_19 (by decide) ?_
        refine wm_icmp_ne (tgt := 26) E dM_classOf_21 (by decide) (fun c21 => ?_) (fun c21 => ?_)
        · have h := (if_neg c21).symm.trans h
          refine wm_iload_n E dM_classOf_26 rfl (j := 0) rfl ?_
          refine wm_bipush (x := 99) E dM_classOf_27 (by decide) ?_
          refine wm_icmp_eq (tgt := 74) E dM_classOf_29 (by decide) (fun c29 => ?_) (fun c29 => ?_)
          · have h := (if_pos c29).symm.trans h
            refine wm_pick (lv' := []) [] rfl ?_
            exact rw_M_classOf_74 E hQ hR hI  h
          · have h := (if_neg c29).symm.trans h
            refine wm_iload_n E dM_classOf_32 rfl (j := 0) rfl ?_
            refine wm_bipush (x := 103) E dM_classOf_33 (by decide) ?_
            refine wm_icmp_eq (tgt := 74) E dM_classOf_35 (by decide) (fun c35 => ?_) (fun c35 => ?_)
            · have h := (if_pos c35).symm.trans h
              refine wm_pick (lv' := []) [] rfl ?_
              exact rw_M_classOf_74 E hQ hR hI  h
            · have h := (if_neg c35).symm.trans h
              refine wm_iload_n E dM_classOf_38 rfl (j := 0) rfl ?_
              refine wm_bipush (x := 106) E dM_classOf_39 (by decide) ?_
              refine wm_icmp_eq (tgt := 74) E dM_classOf_41 (by decide) (fun c41 => ?_) (fun c41 => ?_)
              · have h := (if_pos c41).symm.trans h
                refine wm_pick (lv' := []) [] rfl ?_
                exact rw_M_classOf_74 E hQ hR hI  h
              · have h := (if_neg c41).symm.trans h
                refine wm_iload_n E dM_classOf_44 rfl (j := 0) rfl ?_
                refine wm_bipush (x := 107) E dM_classOf_45 (by decide) ?_
                refine wm_icmp_eq (tgt := 74) E dM_classOf_47 (by decide) (fun c47 => ?_) (fun c47 => ?_)
                · have h := (if_pos c47).symm.trans h
                  refine wm_pick (lv' := []) [] rfl ?_
                  exact rw_M_classOf_74 E hQ hR hI  h
                · have h := (if_neg c47).symm.trans h
                  refine wm_iload_n E dM_classOf_50 rfl (j := 0) rfl ?_
                  refine wm_bipush (x := 113) E dM_classOf_51 (by decide) ?_
                  refine wm_icmp_eq (tgt := 74) E dM_classOf_53 (by decide) (fun c53 => ?_) (fun c53 => ?_)
                  · have h := (if_pos c53).symm.trans h
                    refine wm_pick (lv' := []) [] rfl ?_
                    exact rw_M_classOf_74 E hQ hR hI  h
                  · have h := (if_neg c53).symm.trans h
                    refine wm_iload_n E dM_classOf_56 rfl (j := 0) rfl ?_
                    refine wm_bipush (x := 115) E dM_classOf_57 (by decide) ?_
                    refine wm_icmp_eq (tgt := 74) E dM_classOf_59 (by decide) (fun c59 => ?_) (fun c59 => ?_)
                    · have h := (if_pos c59).symm.trans h
                      refine wm_pick (lv' := []) [] rfl ?_
                      exact rw_M_classOf_74 E hQ hR hI  h
                    · have h := (if_neg c59).symm.trans h
                      refine wm_iload_n E dM_classOf_62 rfl (j := 0) rfl ?_
                      refine wm_bipush (x := 120) E dM_classOf_63 (by decide) ?_
                      refine wm_icmp_eq (tgt := 74) E dM_classOf_65 (by decide) (fun c65 => ?_) (fun c65 => ?_)
                      · have h := (if_pos c65).symm.trans h
                        refine wm_pick (lv' := []) [] rfl ?_
                        exact rw_M_classOf_74 E hQ hR hI  h
                      · have h := (if_neg c65).symm.trans h
                        refine wm_iload_n E dM_classOf_68 rfl (j := 0) rfl ?_
                        refine wm_bipush (x := 122) E dM_classOf_69 (by decide) ?_
                        refine wm_icmp_ne (tgt := 76) E dM_classOf_71 (by decide) (fun c71 => ?_) (fun c71 => ?_)
                        · have h := (if_neg c71).symm.trans h
                          refine wm_iload_n E dM_classOf_76 rfl (j := 0) rfl ?_
                          refine wm_bipush (x := 100) E dM_classOf_77 (by decide) ?_
                          refine wm_icmp_eq (tgt := 88) E dM_classOf_79 (by decide) (fun c79 => ?_) (fun c79 => ?_)
                          · have h := (if_pos c79).symm.trans h
                            refine wm_pick (lv' := []) [] rfl ?_
                            exact rw_M_classOf_88 E hQ hR hI  h
                          · have h := (if_neg c79).symm.trans h
                            refine wm_iload_n E dM_classOf_82 rfl (j := 0) rfl ?_
                            refine wm_bipush (x := 116) E dM_classOf_83 (by decide) ?_
                            refine wm_icmp_ne (tgt := 90) E dM_classOf_85 (by decide) (fun c85 => ?_) (fun c85 => ?_)
                            · have h := (if_neg c85).symm.trans h
                              refine wm_iload_n E dM_classOf_90 rfl (j := 0) rfl ?_
                              refine wm_bipush (x := 108) E dM_classOf_91 (by decide) ?_
                              refine wm_icmp_ne (tgt := 98) E dM_classOf_93 (by decide) (fun c93 => ?_) (fun c93 => ?_)
                              · have h := (if_neg c93).symm.trans h
                                refine wm_iload_n E dM_classOf_98 rfl (j := 0) rfl ?_
                                refine wm_bipush (x := 109) E dM_classOf_99 (by decide) ?_
                                refine wm_icmp_eq (tgt := 110) E dM_classOf_101 (by decide) (fun c101 => ?_) (fun c101 => ?_)
                                · have h := (if_pos c101).symm.trans h
                                  refine wm_pick (lv' := []) [] rfl ?_
                                  exact rw_M_classOf_110 E hQ hR hI  h
                                · have h := (if_neg c101).symm.trans h
                                  refine wm_iload_n E dM_classOf_104 rfl (j := 0) rfl ?_
                                  refine wm_bipush (x := 110) E dM_classOf_105 (by decide) ?_
                                  refine wm_icmp_ne (tgt := 112) E dM_classOf_107 (by decide) (fun c107 => ?_) (fun c107 => ?_)
                                  · have h := (if_neg c107).symm.trans h
                                    refine wm_iload_n E dM_classOf_112 rfl (j := 0) rfl ?_
                                    refine wm_bipush (x := 114) E dM_classOf_113 (by decide) ?_
                                    refine wm_icmp_ne (tgt := 123) E dM_classOf_115 (by decide) (fun c115 => ?_) (fun c115 => ?_)
                                    · have h := (if_neg c115).symm.trans h
                                      refine wm_iconst (x := 0) E dM_classOf_123 (by decide) ?_
                                      refine wm_pick (lv' := []) [] rfl ?_
                                      exact rw_M_classOf_124 E hQ hR hI 0 h
                                    · have h := (if_pos c115).symm.trans h
                                      refine wm_bipush (x := 6) E dM_classOf_118 (by decide) ?_
                                      refine wm_goto (tgt := 124) E dM_classOf_120 (by decide) ?_
                                      refine wm_pick (lv' := []) [] rfl ?_
                                      exact rw_M_classOf_124 E hQ hR hI 6 h
                                  · have h := (if_pos c107).symm.trans h
                                    refine wm_pick (lv' := []) [] rfl ?_
                                    exact rw_M_classOf_110 E hQ hR hI  h
                              · have h := (if_pos c93).symm.trans h
                                refine wm_iconst (x := 4) E dM_classOf_96 (by decide) ?_
                                exact wm_iret (rt := .int) E hQ (rqI0 h) rfl (by decide) (by decide) dM_classOf_97
                            · have h := (if_pos c85).symm.trans h
                              refine wm_pick (lv' := []) [] rfl ?_
                              exact rw_M_classOf_88 E hQ hR hI  h
                        · have h := (if_pos c71).symm.trans h
                          refine wm_pick (lv' := []) [] rfl ?_
                          exact rw_M_classOf_74 E hQ hR hI  h
        · have h := (if_pos c21).symm.trans h
          refine wm_pick (lv' := []) [] rfl ?_
          exact rw_M_classOf_24 E hQ hR hI  h
