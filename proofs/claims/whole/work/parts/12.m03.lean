def RB_M_parent_218  (v1 : Int32) (v2 : Int32) (v3 : Int32) (v4 : Int32) (ρ : RS) : Option (Unit × RS) := if (ri ρ 0) ≤ 0 then b1 (rgI ρ 14 30 v1) (fun x234 => b0 ((4 * v1) + x234) (fun x236 => b1 (rsI ρ 15 120 x236 v2) (fun ρ245 => b1 (rsI ρ245 16 120 x236 v3) (fun ρ253 => b1 (rsI ρ253 17 120 x236 v4) (fun ρ262 => b1 (rgI ρ262 14 30 v1) (fun x269 => b1 (rsI ρ262 14 30 v1 (x269 + 1)) (fun ρ272 => some ((), ρ272)))))))) else some ((), ρ)
set_option maxHeartbeats 4000000 in
set_option maxRecDepth 100000 in
theorem rw_M_parent_218 {X : CX} (E : EV X prog_13_method_31_code 8 "PlaceFinderModel" none) {μ0 μ : Mem} {b : Nat} {r : Unit} {ρ' : RS} (hQ : RQ X 0 0 μ0 none (ov b ρ' μ)) (hR : xR X = { frames := 3, cells := 0, slots := 0, locals := 71 }) (hI : X.2.2.2.2.2.2.2.2.2.2.2.1.name = "parent") (hW : mW μ ≤ b)  (v1 : Int32) (v2 : Int32) (v3 : Int32) (v4 : Int32) (ρ : RS) (h : RB_M_parent_218  v1 v2 v3 v4 ρ = some (r, ρ')) : WM X 8 218 [(0, vR (some b)), (1, vI v1), (2, vI v2), (3, vI v3), (4, vI v4)] [] 0 0 (ov b ρ μ) := by
  have h : (if (ri ρ 0) ≤ 0 then b1 (rgI ρ 14 30 v1) (fun x234 => b0 ((4 * v1) + x234) (fun x236 => b1 (rsI ρ 15 120 x236 v2) (fun ρ245 => b1 (rsI ρ245 16 120 x236 v3) (fun ρ253 => b1 (rsI ρ253 17 120 x236 v4) (fun ρ262 => b1 (rgI ρ262 14 30 v1) (fun x269 => b1 (rsI ρ262 14 30 v1 (x269 + 1)) (fun ρ272 => some ((), ρ272)))))))) else some ((), ρ)) = some (r, ρ') := h
  refine wm_aload_n E dM_parent_218 rfl (j := 0) rfl ?_
  refine wm_rget (v := vI (ri ρ 0)) E fd_M_132 rfl dM_parent_219 ?_
  refine wm_if_le (tgt := 226) E dM_parent_222 (by decide) (fun c222 => ?_) (fun c222 => ?_)
  · have h := (if_pos c222).symm.trans h
    refine wm_iconst (x := 4) E dM_parent_226 (by decide) ?_
    refine wm_iload_n E dM_parent_227 rfl (j := 1) rfl ?_
    refine wm_imul E dM_parent_228 ?_
    refine wm_aload_n E dM_parent_229 rfl (j := 0) rfl ?_
    refine wm_rget (v := vR (some (b + 13))) E fd_M_46 rfl dM_parent_230 ?_
    refine wm_iload_n E dM_parent_233 rfl (j := 1) rfl ?_
    refine wm_riald E (by decide) rfl rfl (by decide) (by decide) h dM_parent_234 (fun x234 h => ?_)
    refine wm_iadd E dM_parent_235 ?_
    refine wm_letI h (fun x236 h => ?_)
    refine wm_istore (lv' := [(5, vI x236), (0, vR (some b)), (1, vI v1), (2, vI v2), (3, vI v3), (4, vI v4)]) E dM_parent_236 (by decide) rfl ?_
    refine wm_aload_n E dM_parent_238 rfl (j := 1) rfl ?_
    refine wm_rget (v := vR (some (b + 14))) E fd_M_49 rfl dM_parent_239 ?_
    refine wm_iload E dM_parent_242 (j := 0) rfl ?_
    refine wm_iload_n E dM_parent_244 rfl (j := 3) rfl ?_
    refine wm_riast E (by decide) rfl rfl (by decide) (by decide) hW h dM_parent_245 (fun ρ245 h => ?_)
    refine wm_aload_n E dM_parent_246 rfl (j := 1) rfl ?_
    refine wm_rget (v := vR (some (b + 15))) E fd_M_52 rfl dM_parent_247 ?_
    refine wm_iload E dM_parent_250 (j := 0) rfl ?_
    refine wm_iload_n E dM_parent_252 rfl (j := 4) rfl ?_
    refine wm_riast E (by decide) rfl rfl (by decide) (by decide) hW h dM_parent_253 (fun ρ253 h => ?_)
    refine wm_aload_n E dM_parent_254 rfl (j := 1) rfl ?_
    refine wm_rget (v := vR (some (b + 16))) E fd_M_55 rfl dM_parent_255 ?_
    refine wm_iload E dM_parent_258 (j := 0) rfl ?_
    refine wm_iload E dM_parent_260 (j := 5) rfl ?_
    refine wm_riast E (by decide) rfl rfl (by decide) (by decide) hW h dM_parent_262 (fun ρ262 h => ?_)
    refine wm_aload_n E dM_parent_263 rfl (j := 1) rfl ?_
    refine wm_rget (v := vR (some (b + 13))) E fd_M_46 rfl dM_parent_264 ?_
    refine wm_iload_n E dM_parent_267 rfl (j := 2) rfl ?_
    refine wm_dup2_11 E dM_parent_268 rfl rfl ?_
    refine wm_riald E (by decide) rfl rfl (by decide) (by decide) h dM_parent_269 (fun x269 h => ?_)
    refine wm_iconst (x := 1) E dM_parent_270 (by decide) ?_
    refine wm_iadd E dM_parent_271 ?_
    refine wm_riast E (by decide) rfl rfl (by decide) (by decide) hW h dM_parent_272 (fun ρ272 h => ?_)
    exact wm_vret E hQ rfl (rrM h) (by decide) (by decide) dM_parent_273
  · have h := (if_neg c222).symm.trans h
    exact wm_vret E hQ rfl (rrM h) (by decide) (by decide) dM_parent_225
def RB_M_parent_206 (k134 : Int32 → Int32 → Int32 → Int32 → Int32 → RS → Option (Unit × RS)) (k153 : Int32 → Int32 → Int32 → Int32 → Int32 → Int32 → RS → Option (Unit × RS)) (v1 : Int32) (v2 : Int32) (v3 : Int32) (v4 : Int32) (v5 : Int32) (v6 : Int32) (ρ : RS) : Option (Unit × RS) := k153 v1 v2 v3 v4 v5 (v6 + 1) (ρ)
set_option maxHeartbeats 4000000 in
set_option maxRecDepth 100000 in
theorem rw_M_parent_206 {X : CX} (E : EV X prog_13_method_31_code 8 "PlaceFinderModel" none) {μ0 μ : Mem} {b : Nat} {r : Unit} {ρ' : RS} (hQ : RQ X 0 0 μ0 none (ov b ρ' μ)) (hR : xR X = { frames := 3, cells := 0, slots := 0, locals := 71 }) (hI : X.2.2.2.2.2.2.2.2.2.2.2.1.name = "parent") (hW : mW μ ≤ b) (k134 : Int32 → Int32 → Int32 → Int32 → Int32 → RS → Option (Unit × RS)) (hk134 : ∀ (v1 : Int32) (v2 : Int32) (v3 : Int32) (v4 : Int32) (v5 : Int32) (ρ : RS), k134 v1 v2 v3 v4 v5 ρ = some (r, ρ') → WM X 8 134 [(0, vR (some b)), (1, vI v1), (2, vI v2), (3, vI v3), (4, vI v4), (5, vI v5)] [] 0 0 (ov b ρ μ)) (k153 : Int32 → Int32 → Int32 → Int32 → Int32 → Int32 → RS → Option (Unit × RS)) (hk153 : ∀ (v1 : Int32) (v2 : Int32) (v3 : Int32) (v4 : Int32) (v5 : Int32) (v6 : Int32) (ρ : RS), k153 v1 v2 v3 v4 v5 v6 ρ = some (r, ρ') → WM X 8 153 [(0, vR (some b)), (1, vI v1), (2, vI v2), (3, vI v3), (4, vI v4), (5, vI v5), (6, vI v6)] [] 0 0 (ov b ρ μ)) (v1 : Int32) (v2 : Int32) (v3 : Int32) (v4 : Int32) (v5 : Int32) (v6 : Int32) (ρ : RS) (h : RB_M_parent_206 k134 k153 v1 v2 v3 v4 v5 v6 ρ = some (r, ρ')) : WM X 8 206 [(0, vR (some b)), (1, vI v1), (2, vI v2), (3, vI v3), (4, vI v4), (5, vI v5), (6, vI v6)] [] 0 0 (ov b ρ μ) := by
  have h : (k153 v1 v2 v3 v4 v5 (v6 + 1) (ρ)) = some (r, ρ') := h
  refine wm_iinc (lv' := [(6, vI (v6 + 1)), (0, vR (some b)), (1, vI v1), (2, vI v2), (3, vI v3), (4, vI v4), (5, vI v5)]) (d := 1) E dM_parent_206 (by decide) (j := 6) rfl (by decide) rfl ?_
  refine wm_goto (tgt := 153) E dM_parent_209 (by decide) ?_
  refine wm_pick (lv' := [(0, vR (some b)), (1, vI v1), (2, vI v2), (3, vI v3), (4, vI v4), (5, vI v5), (6, vI (v6 + 1))]) [1, 2, 3, 4, 5, 6, 0] rfl ?_
  exact hk153 v1 v2 v3 v4 v5 (v6 + 1) (ρ) h
def RB_M_parent_153 (k134 : Int32 → Int32 → Int32 → Int32 → Int32 → RS → Option (Unit × RS)) : Nat → Int32 → Int32 → Int32 → Int32 → Int32 → Int32 → RS → Option (Unit × RS)
  | 0, _, _, _, _, _, _, _ => none
  | n + 1, v1, v2, v3, v4, v5, v6, ρ => b1 (rgI ρ 14 30 v5) (fun x161 => if x161 ≤ v6 then k134 v1 v2 v3 v4 (v5 + 1) (ρ) else b1 (rgI ρ 16 120 ((4 * v5) + v6)) (fun x176 => b1 (R_M_in x176 v3 v4) (fun x184 => if x184 = 0 then RB_M_parent_206 k134 (fun v1 v2 v3 v4 v5 v6 ρ => RB_M_parent_153 k134 n v1 v2 v3 v4 v5 v6 ρ) v1 v2 v3 v4 v5 v6 (ρ) else b1 (R_M_isAbove v1 v2 x176 (ρ)) (fun x195 => if x195 = 0 then RB_M_parent_206 k134 (fun v1 v2 v3 v4 v5 v6 ρ => RB_M_parent_153 k134 n v1 v2 v3 v4 v5 v6 ρ) v1 v2 v3 v4 v5 v6 (ρ) else b0 (rpI ρ 0 3) (fun ρ203 => RB_M_parent_206 k134 (fun v1 v2 v3 v4 v5 v6 ρ => RB_M_parent_153 k134 n v1 v2 v3 v4 v5 v6 ρ) v1 v2 v3 v4 v5 v6 (ρ203))))))
set_option maxHeartbeats 4000000 in
set_option maxRecDepth 100000 in
theorem rw_M_parent_153 {X : CX} (E : EV X prog_13_method_31_code 8 "PlaceFinderModel" none) {μ0 μ : Mem} {b : Nat} {r : Unit} {ρ' : RS} (hQ : RQ X 0 0 μ0 none (ov b ρ' μ)) (hR : xR X = { frames := 3, cells := 0, slots := 0, locals := 71 }) (hI : X.2.2.2.2.2.2.2.2.2.2.2.1.name = "parent") (hW : mW μ ≤ b) (k134 : Int32 → Int32 → Int32 → Int32 → Int32 → RS → Option (Unit × RS)) (hk134 : ∀ (v1 : Int32) (v2 : Int32) (v3 : Int32) (v4 : Int32) (v5 : Int32) (ρ : RS), k134 v1 v2 v3 v4 v5 ρ = some (r, ρ') → WM X 8 134 [(0, vR (some b)), (1, vI v1), (2, vI v2), (3, vI v3), (4, vI v4), (5, vI v5)] [] 0 0 (ov b ρ μ)) (n : Nat) : ∀ (v1 : Int32) (v2 : Int32) (v3 : Int32) (v4 : Int32) (v5 : Int32) (v6 : Int32) (ρ : RS) (h : RB_M_parent_153 k134 n v1 v2 v3 v4 v5 v6 ρ = some (r, ρ')), WM X 8 153 [(0, vR (some b)), (1, vI v1), (2, vI v2), (3, vI v3), (4, vI v4), (5, vI v5), (6, vI v6)] [] 0 0 (ov b ρ μ) := by
  induction n with
  | zero => intro v1 v2 v3 v4 v5 v6 ρ h; cases h
  | succ n ih =>
    intro v1 v2 v3 v4 v5 v6 ρ h
    have h : (b1 (rgI ρ 14 30 v5) (fun x161 => if x161 ≤ v6 then k134 v1 v2 v3 v4 (v5 + 1) (ρ) else b1 (rgI ρ 16 120 ((4 * v5) + v6)) (fun x176 => b1 (R_M_in x176 v3 v4) (fun x184 => if x184 = 0 then RB_M_parent_206 k134 (fun v1 v2 v3 v4 v5 v6 ρ => RB_M_parent_153 k134 n v1 v2 v3 v4 v5 v6 ρ) v1 v2 v3 v4 v5 v6 (ρ) else b1 (R_M_isAbove v1 v2 x176 (ρ)) (fun x195 => if x195 = 0 then RB_M_parent_206 k134 (fun v1 v2 v3 v4 v5 v6 ρ => RB_M_parent_153 k134 n v1 v2 v3 v4 v5 v6 ρ) v1 v2 v3 v4 v5 v6 (ρ) else b0 (rpI ρ 0 3) (fun ρ203 => RB_M_parent_206 k134 (fun v1 v2 v3 v4 v5 v6 ρ => RB_M_parent_153 k134 n v1 v2 v3 v4 v5 v6 ρ) v1 v2 v3 v4 v5 v6 (ρ203))))))) = some (r, ρ') := h
    refine wm_iload E dM_parent_153 (j := 6) rfl ?_
    refine wm_aload_n E dM_parent_155 rfl (j := 0) rfl ?_
    refine wm_rget (v := vR (some (b + 13))) E fd_M_46 rfl dM_parent_156 ?_
    refine wm_iload E dM_parent_159 (j := 5) rfl ?_
    refine wm_riald E (by decide) rfl rfl (by decide) (by decide) h dM_parent_161 (fun x161 h => ?_)
    refine wm_icmp_ge (tgt := 212) E dM_parent_162 (by decide) (fun c162 => ?_) (fun c162 => ?_)
    · have h := (if_pos c162).symm.trans h
      refine wm_iinc (lv' := [(5, vI (v5 + 1)), (0, vR (some b)), (1, vI v1), (2, vI v2), (3, vI v3), (4, vI v4), (6, vI v6)]) (d := 1) E dM_parent_212 (by decide) (j := 5) rfl (by decide) rfl ?_
      refine wm_goto (tgt := 134) E dM_parent_215 (by decide) ?_
      refine wm_pick (lv' := [(0, vR (some b)), (1, vI v1), (2, vI v2), (3, vI v3), (4, vI v4), (5, vI (v5 + 1))]) [1, 2, 3, 4, 5, 0] rfl ?_
      exact hk134 v1 v2 v3 v4 (v5 + 1) (ρ) h
    · have h := (if_neg c162).symm.trans h
      refine wm_aload_n E dM_parent_165 rfl (j := 0) rfl ?_
      refine wm_rget (v := vR (some (b + 15))) E fd_M_52 rfl dM_parent_166 ?_
      refine wm_iconst (x := 4) E dM_parent_169 (by decide) ?_
      refine wm_iload E dM_parent_170 (j := 5) rfl ?_
      refine wm_imul E dM_parent_172 ?_
      refine wm_iload E dM_parent_173 (j := 6) rfl ?_
      refine wm_iadd E dM_parent_175 ?_
      refine wm_riald E (by decide) rfl rfl (by decide) (by decide) h dM_parent_176 (fun x176 h => ?_)
      refine wm_istore (lv' := [(7, vI x176), (0, vR (some b)), (1, vI v1), (2, vI v2), (3, vI v3), (4, vI v4), (5, vI v5), (6, vI v6)]) E dM_parent_177 (by decide) rfl ?_
      refine wm_iload E dM_parent_179 (j := 0) rfl ?_
      refine wm_iload_n E dM_parent_181 rfl (j := 4) rfl ?_
      refine wm_iload E dM_parent_182 (j := 5) rfl ?_
      obtain ⟨x184, hc184, h⟩ := b1S h
      refine wm_cS (As := [vI x176, vI v3, vI v4]) (st := []) E lk_M_139 sc_M_in (RC_M_in (xl X) X.1 x176 v3 v4 _ _ hc184) rfl rfl (by rw [hR]; decide) (by rw [hR]; decide) (Nat.le_of_ble_eq_true rfl) dM_parent_184 ?_
      refine wm_if_eq (tgt := 206) E dM_parent_187 (by decide) (fun c187 => ?_) (fun c187 => ?_)
      · have h := (if_pos c187).symm.trans h
        refine wm_pick (lv' := [(0, vR (some b)), (1, vI v1), (2, vI v2), (3, vI v3), (4, vI v4), (5, vI v5), (6, vI v6)]) [1, 2, 3, 4, 5, 6, 7] rfl ?_
        exact rw_M_parent_206 E hQ hR hI hW k134 hk134 (fun v1 v2 v3 v4 v5 v6 ρ => RB_M_parent_153 k134 n v1 v2 v3 v4 v5 v6 ρ) ih v1 v2 v3 v4 v5 v6 (ρ) h
      · have h := (if_neg c187).symm.trans h
        refine wm_aload_n E dM_parent_190 rfl (j := 1) rfl ?_
        refine wm_iload_n E dM_parent_191 rfl (j := 2) rfl ?_
        refine wm_iload_n E dM_parent_192 rfl (j := 3) rfl ?_
        refine wm_iload E dM_parent_193 (j := 0) rfl ?_
        obtain ⟨x195, hc195, h⟩ := b1S h
        refine wm_cV (ci := 12) (As := [vI v1, vI v2, vI x176]) (st := []) E lk_M_205 rfl im_M_isAbove sl_M_isAbove (ov_rc _ _ _) (RC_M_isAbove (xl X) X.1 b (ρ) μ v1 v2 x176 _ hc195) rfl rfl (by rw [hR]; decide) (by rw [hR]; decide) (Nat.le_of_ble_eq_true rfl) dM_parent_195 ?_
        refine wm_if_eq (tgt := 206) E dM_parent_198 (by decide) (fun c198 => ?_) (fun c198 => ?_)
        · have h := (if_pos c198).symm.trans h
          refine wm_pick (lv' := [(0, vR (some b)), (1, vI v1), (2, vI v2), (3, vI v3), (4, vI v4), (5, vI v5), (6, vI v6)]) [1, 2, 3, 4, 5, 6, 7] rfl ?_
          exact rw_M_parent_206 E hQ hR hI hW k134 hk134 (fun v1 v2 v3 v4 v5 v6 ρ => RB_M_parent_153 k134 n v1 v2 v3 v4 v5 v6 ρ) ih v1 v2 v3 v4 v5 v6 (ρ) h
        · have h := (if_neg c198).symm.trans h
          refine wm_aload_n E dM_parent_201 rfl (j := 1) rfl ?_
          refine wm_iconst (x := 3) E dM_parent_202 (by decide) ?_
          refine wm_rpI E fp_M_132 (fun q => by cases q) rfl (by decide) hW dM_parent_203 ?_
          refine wm_rlet h (fun ρ203 h => ?_)
          refine wm_pick (lv' := [(0, vR (some b)), (1, vI v1), (2, vI v2), (3, vI v3), (4, vI v4), (5, vI v5), (6, vI v6)]) [1, 2, 3, 4, 5, 6, 7] rfl ?_
          exact rw_M_parent_206 E hQ hR hI hW k134 hk134 (fun v1 v2 v3 v4 v5 v6 ρ => RB_M_parent_153 k134 n v1 v2 v3 v4 v5 v6 ρ) ih v1 v2 v3 v4 v5 v6 (ρ203) h
def RB_M_parent_134  : Nat → Int32 → Int32 → Int32 → Int32 → Int32 → RS → Option (Unit × RS)
  | 0, _, _, _, _, _, _ => none
  | n + 1, v1, v2, v3, v4, v5, ρ => if (ri ρ 1) ≤ v5 then RB_M_parent_218 v1 v2 v3 v4 (ρ) else if (ri ρ 0) = 0 then RB_M_parent_153 (fun v1 v2 v3 v4 v5 ρ => RB_M_parent_134 n v1 v2 v3 v4 v5 ρ) fu v1 v2 v3 v4 v5 0 (ρ) else RB_M_parent_218 v1 v2 v3 v4 (ρ)
set_option maxHeartbeats 4000000 in
set_option maxRecDepth 100000 in
theorem rw_M_parent_134 {X : CX} (E : EV X prog_13_method_31_code 8 "PlaceFinderModel" none) {μ0 μ : Mem} {b : Nat} {r : Unit} {ρ' : RS} (hQ : RQ X 0 0 μ0 none (ov b ρ' μ)) (hR : xR X = { frames := 3, cells := 0, slots := 0, locals := 71 }) (hI : X.2.2.2.2.2.2.2.2.2.2.2.1.name = "parent") (hW : mW μ ≤ b)  (n : Nat) : ∀ (v1 : Int32) (v2 : Int32) (v3 : Int32) (v4 : Int32) (v5 : Int32) (ρ : RS) (h : RB_M_parent_134  n v1 v2 v3 v4 v5 ρ = some (r, ρ')), WM X 8 134 [(0, vR (some b)), (1, vI v1), (2, vI v2), (3, vI v3), (4, vI v4), (5, vI v5)] [] 0 0 (ov b ρ μ) := by
  induction n with
  | zero => intro v1 v2 v3 v4 v5 ρ h; cases h
  | succ n ih =>
    intro v1 v2 v3 v4 v5 ρ h
    have h : (if (ri ρ 1) ≤ v5 then RB_M_parent_218 v1 v2 v3 v4 (ρ) else if (ri ρ 0) = 0 then RB_M_parent_153 (fun v1 v2 v3 v4 v5 ρ => RB_M_parent_134 n v1 v2 v3 v4 v5 ρ) fu v1 v2 v3 v4 v5 0 (ρ) else RB_M_parent_218 v1 v2 v3 v4 (ρ)) = some (r, ρ') := h
    refine wm_iload E dM_parent_134 (j := 5) rfl ?_
    refine wm_aload_n E dM_parent_136 rfl (j := 0) rfl ?_
    refine wm_rget (v := vI (ri ρ 1)) E fd_M_136 rfl dM_parent_137 ?_
    refine wm_icmp_ge (tgt := 218) E dM_parent_140 (by decide) (fun c140 => ?_) (fun c140 => ?_)
    · have h := (if_pos c140).symm.trans h
      refine wm_pick (lv' := [(0, vR (some b)), (1, vI v1), (2, vI v2), (3, vI v3), (4, vI v4)]) [0, 1, 2, 3, 4] rfl ?_
      exact rw_M_parent_218 E hQ hR hI hW v1 v2 v3 v4 (ρ) h
    · have h := (if_neg c140).symm.trans h
      refine wm_aload_n E dM_parent_143 rfl (j := 0) rfl ?_
      refine wm_rget (v := vI (ri ρ 0)) E fd_M_132 rfl dM_parent_144 ?_
      refine wm_if_ne (tgt := 218) E dM_parent_147 (by decide) (fun c147 => ?_) (fun c147 => ?_)
      · have h := (if_neg c147).symm.trans h
        refine wm_pick (lv' := [(0, vR (some b)), (1, vI v1), (2, vI v2), (3, vI v3), (4, vI v4)]) [0, 1, 2, 3, 4] rfl ?_
        exact rw_M_parent_218 E hQ hR hI hW v1 v2 v3 v4 (ρ) h
      · have h := (if_pos c147).symm.trans h
        refine wm_iconst (x := 0) E dM_parent_150 (by decide) ?_
        refine wm_istore (lv' := [(6, vI 0), (0, vR (some b)), (1, vI v1), (2, vI v2), (3, vI v3), (4, vI v4), (5, vI v5)]) E dM_parent_151 (by decide) rfl ?_
        refine wm_pick (lv' := [(0, vR (some b)), (1, vI v1), (2, vI v2), (3, vI v3), (4, vI v4), (5, vI v5), (6, vI 0)]) [1, 2, 3, 4, 5, 6, 0] rfl ?_
        exact rw_M_parent_153 E hQ hR hI hW (fun v1 v2 v3 v4 v5 ρ => RB_M_parent_134 n v1 v2 v3 v4 v5 ρ) ih fu v1 v2 v3 v4 v5 0 (ρ) h
def RB_M_parent_131  (v1 : Int32) (v2 : Int32) (v3 : Int32) (v4 : Int32) (ρ : RS) : Option (Unit × RS) := RB_M_parent_134 fu v1 v2 v3 v4 0 (ρ)
set_option maxHeartbeats 4000000 in
set_option maxRecDepth 100000 in
theorem rw_M_parent_131 {X : CX} (E : EV X prog_13_method_31_code 8 "PlaceFinderModel" none) {μ0 μ : Mem} {b : Nat} {r : Unit} {ρ' : RS} (hQ : RQ X 0 0 μ0 none (ov b ρ' μ)) (hR : xR X = { frames := 3, cells := 0, slots := 0, locals := 71 }) (hI : X.2.2.2.2.2.2.2.2.2.2.2.1.name = "parent") (hW : mW μ ≤ b)  (v1 : Int32) (v2 : Int32) (v3 : Int32) (v4 : Int32) (ρ : RS) (h : RB_M_parent_131  v1 v2 v3 v4 ρ = some (r, ρ')) : WM X 8 131 [(0, vR (some b)), (1, vI v1), (2, vI v2), (3, vI v3), (4, vI v4)] [] 0 0 (ov b ρ μ) := by
  have h : (RB_M_parent_134 fu v1 v2 v3 v4 0 (ρ)) = some (r, ρ') := h
  refine wm_iconst (x := 0) E dM_parent_131 (by decide) ?_
  refine wm_istore (lv' := [(5, vI 0), (0, vR (some b)), (1, vI v1), (2, vI v2), (3, vI v3), (4, vI v4)]) E dM_parent_132 (by decide) rfl ?_
  refine wm_pick (lv' := [(0, vR (some b)), (1, vI v1), (2, vI v2), (3, vI v3), (4, vI v4), (5, vI 0)]) [1, 2, 3, 4, 5, 0] rfl ?_
  exact rw_M_parent_134 E hQ hR hI hW fu v1 v2 v3 v4 0 (ρ) h
def RB_M_parent_126  (v1 : Int32) (v2 : Int32) (v3 : Int32) (v4 : Int32) (ρ : RS) : Option (Unit × RS) := b0 (rpI ρ 0 3) (fun ρ128 => RB_M_parent_131 v1 v2 v3 v4 (ρ128))
set_option maxHeartbeats 4000000 in
set_option maxRecDepth 100000 in
theorem rw_M_parent_126 {X : CX} (E : EV X prog_13_method_31_code 8 "PlaceFinderModel" none) {μ0 μ : Mem} {b : Nat} {r : Unit} {ρ' : RS} (hQ : RQ X 0 0 μ0 none (ov b ρ' μ)) (hR : xR X = { frames := 3, cells := 0, slots := 0, locals := 71 }) (hI : X.2.2.2.2.2.2.2.2.2.2.2.1.name = "parent") (hW : mW μ ≤ b)  (v1 : Int32) (v2 : Int32) (v3 : Int32) (v4 : Int32) (ρ : RS) (h : RB_M_parent_126  v1 v2 v3 v4 ρ = some (r, ρ')) : WM X 8 126 [(0, vR (some b)), (1, vI v1), (2, vI v2), (3, vI v3), (4, vI v4)] [] 0 0 (ov b ρ μ) := by
  have h : (b0 (rpI ρ 0 3) (fun ρ128 => RB_M_parent_131 v1 v2 v3 v4 (ρ128))) = some (r, ρ') := h
  refine wm_aload_n E dM_parent_126 rfl (j := 0) rfl ?_
  refine wm_iconst (x := 3) E dM_parent_127 (by decide) ?_
  refine wm_rpI E fp_M_132 (fun q => by cases q) rfl (by decide) hW dM_parent_128 ?_
  refine wm_rlet h (fun ρ128 h => ?_)
  refine wm_pick (lv' := [(0, vR (some b)), (1, vI v1), (2, vI v2), (3, vI v3), (4, vI v4)]) [0, 1, 2, 3, 4] rfl ?_
  exact rw_M_parent_131 E hQ hR hI hW v1 v2 v3 v4 (ρ128) h
def RB_M_parent_92 (k45 : Int32 → Int32 → Int32 → Int32 → Int32 → RS → Option (Unit × RS)) (v1 : Int32) (v2 : Int32) (v3 : Int32) (v4 : Int32) (v5 : Int32) (ρ : RS) : Option (Unit × RS) := k45 v1 v2 v3 v4 (v5 + 1) (ρ)
set_option maxHeartbeats 4000000 in
set_option maxRecDepth 100000 in
theorem rw_M_parent_92 {X : CX} (E : EV X prog_13_method_31_code 8 "PlaceFinderModel" none) {μ0 μ : Mem} {b : Nat} {r : Unit} {ρ' : RS} (hQ : RQ X 0 0 μ0 none (ov b ρ' μ)) (hR : xR X = { frames := 3, cells := 0, slots := 0, locals := 71 }) (hI : X.2.2.2.2.2.2.2.2.2.2.2.1.name = "parent") (hW : mW μ ≤ b) (k45 : Int32 → Int32 → Int32 → Int32 → Int32 → RS → Option (Unit × RS)) (hk45 : ∀ (v1 : Int32) (v2 : Int32) (v3 : Int32) (v4 : Int32) (v5 : Int32) (ρ : RS), k45 v1 v2 v3 v4 v5 ρ = some (r, ρ') → WM X 8 45 [(0, vR (some b)), (1, vI v1), (2, vI v2), (3, vI v3), (4, vI v4), (5, vI v5)] [] 0 0 (ov b ρ μ)) (v1 : Int32) (v2 : Int32) (v3 : Int32) (v4 : Int32) (v5 : Int32) (ρ : RS) (h : RB_M_parent_92 k45 v1 v2 v3 v4 v5 ρ = some (r, ρ')) : WM X 8 92 [(0, vR (some b)), (1, vI v1), (2, vI v2), (3, vI v3), (4, vI v4), (5, vI v5)] [] 0 0 (ov b ρ μ) := by
  have h : (k45 v1 v2 v3 v4 (v5 + 1) (ρ)) = some (r, ρ') := h
  refine wm_iinc (lv' := [(5, vI (v5 + 1)), (0, vR (some b)), (1, vI v1), (2, vI v2), (3, vI v3), (4, vI v4)]) (d := 1) E dM_parent_92 (by decide) (j := 5) rfl (by decide) rfl ?_
  refine wm_goto (tgt := 45) E dM_parent_95 (by decide) ?_
  refine wm_pick (lv' := [(0, vR (some b)), (1, vI v1), (2, vI v2), (3, vI v3), (4, vI v4), (5, vI (v5 + 1))]) [1, 2, 3, 4, 5, 0] rfl ?_
  exact hk45 v1 v2 v3 v4 (v5 + 1) (ρ) h
def RB_M_parent_45  : Nat → Int32 → Int32 → Int32 → Int32 → Int32 → RS → Option (Unit × RS)
  | 0, _, _, _, _, _, _ => none
  | n + 1, v1, v2, v3, v4, v5, ρ => b1 (rgI ρ 14 30 v1) (fun x52 => if x52 ≤ v5 then if (ri ρ 0) ≤ 0 then b1 (rgI ρ 14 30 v1) (fun x111 => if x111 = 4 then RB_M_parent_126 v1 v2 v3 v4 (ρ) else b1 (R_M_isAbove v1 v2 v3 (ρ)) (fun x120 => if x120 = 0 then RB_M_parent_131 v1 v2 v3 v4 (ρ) else RB_M_parent_126 v1 v2 v3 v4 (ρ))) else some ((), ρ) else b1 (rgI ρ 16 120 ((4 * v1) + v5)) (fun x66 => if v4 < x66 then RB_M_parent_92 (fun v1 v2 v3 v4 v5 ρ => RB_M_parent_45 n v1 v2 v3 v4 v5 ρ) v1 v2 v3 v4 v5 (ρ) else b1 (rgI ρ 17 120 ((4 * v1) + v5)) (fun x83 => if x83 < v3 then RB_M_parent_92 (fun v1 v2 v3 v4 v5 ρ => RB_M_parent_45 n v1 v2 v3 v4 v5 ρ) v1 v2 v3 v4 v5 (ρ) else b0 (rpI ρ 0 2) (fun ρ89 => RB_M_parent_92 (fun v1 v2 v3 v4 v5 ρ => RB_M_parent_45 n v1 v2 v3 v4 v5 ρ) v1 v2 v3 v4 v5 (ρ89)))))
set_option maxHeartbeats 4000000 in
set_option maxRecDepth 100000 in
theorem rw_M_parent_45 {X : CX} (E : EV X prog_13_method_31_code 8 "PlaceFinderModel" none) {μ0 μ : Mem} {b : Nat} {r : Unit} {ρ' : RS} (hQ : RQ X 0 0 μ0 none (ov b ρ' μ)) (hR : xR X = { frames := 3, cells := 0, slots := 0, locals := 71 }) (hI : X.2.2.2.2.2.2.2.2.2.2.2.1.name = "parent") (hW : mW μ ≤ b)  (n : Nat) : ∀ (v1 : Int32) (v2 : Int32) (v3 : Int32) (v4 : Int32) (v5 : Int32) (ρ : RS) (h : RB_M_parent_45  n v1 v2 v3 v4 v5 ρ = some (r, ρ')), WM X 8 45 [(0, vR (some b)), (1, vI v1), (2, vI v2), (3, vI v3), (4, vI v4), (5, vI v5)] [] 0 0 (ov b ρ μ) := by
  induction n with
  | zero => intro v1 v2 v3 v4 v5 ρ h; cases h
  | succ n ih =>
    intro v1 v2 v3 v4 v5 ρ h
    have h : (b1 (rgI ρ 14 30 v1) (fun x52 => if x52 ≤ v5 then if (ri ρ 0) ≤ 0 then b1 (rgI ρ 14 30 v1) (fun x111 => if x111 = 4 then RB_M_parent_126 v1 v2 v3 v4 (ρ) else b1 (R_M_isAbove v1 v2 v3 (ρ)) (fun x120 => if x120 = 0 then RB_M_parent_131 v1 v2 v3 v4 (ρ) else RB_M_parent_126 v1 v2 v3 v4 (ρ))) else some ((), ρ) else b1 (rgI ρ 16 120 ((4 * v1) + v5)) (fun x66 => if v4 < x66 then RB_M_parent_92 (fun v1 v2 v3 v4 v5 ρ => RB_M_parent_45 n v1 v2 v3 v4 v5 ρ) v1 v2 v3 v4 v5 (ρ) else b1 (rgI ρ 17 120 ((4 * v1) + v5)) (fun x83 => if x83 < v3 then RB_M_parent_92 (fun v1 v2 v3 v4 v5 ρ => RB_M_parent_45 n v1 v2 v3 v4 v5 ρ) v1 v2 v3 v4 v5 (ρ) else b0 (rpI ρ 0 2) (fun ρ89 => RB_M_parent_92 (fun v1 v2 v3 v4 v5 ρ => RB_M_parent_45 n v1 v2 v3 v4 v5 ρ) v1 v2 v3 v4 v5 (ρ89)))))) = some (r, ρ') := h
    refine wm_iload E dM_parent_45 (j := 5) rfl ?_
    refine wm_aload_n E dM_parent_47 rfl (j := 0) rfl ?_
    refine wm_rget (v := vR (some (b + 13))) E fd_M_46 rfl dM_parent_48 ?_
    refine wm_iload_n E dM_parent_51 rfl (j := 1) rfl ?_
    refine wm_riald E (by decide) rfl rfl (by decide) (by decide) h dM_parent_52 (fun x52 h => ?_)
    refine wm_icmp_ge (tgt := 98) E dM_parent_53 (by decide) (fun c53 => ?_) (fun c53 => ?_)
    · have h := (if_pos c53).symm.trans h
      refine wm_aload_n E dM_parent_98 rfl (j := 0) rfl ?_
      refine wm_rget (v := vI (ri ρ 0)) E fd_M_132 rfl dM_parent_99 ?_
      refine wm_if_le (tgt := 106) E dM_parent_102 (by decide) (fun c102 => ?_) (fun c102 => ?_)
      · have h := (if_pos c102).symm.trans h
        refine wm_aload_n E dM_parent_106 rfl (j := 0) rfl ?_
        refine wm_rget (v := vR (some (b + 13))) E fd_M_46 rfl dM_parent_107 ?_
        refine wm_iload_n E dM_parent_110 rfl (j := 1) rfl ?_
        refine wm_riald E (by decide) rfl rfl (by decide) (by decide) h dM_parent_111 (fun x111 h => ?_)
        refine wm_iconst (x := 4) E dM_parent_112 (by decide) ?_
        refine wm_icmp_eq (tgt := 126) E dM_parent_113 (by decide) (fun c113 => ?_) (fun c113 => ?_)
        · have h := (if_pos c113).symm.trans h
          refine wm_pick (lv' := [(0, vR (some b)), (1, vI v1), (2, vI v2), (3, vI v3), (4, vI v4)]) [0, 1, 2, 3, 4] rfl ?_
          exact rw_M_parent_126 E hQ hR hI hW v1 v2 v3 v4 (ρ) h
        · have h := (if_neg c113).symm.trans h
          refine wm_aload_n E dM_parent_116 rfl (j := 0) rfl ?_
          refine wm_iload_n E dM_parent_117 rfl (j := 1) rfl ?_
          refine wm_iload_n E dM_parent_118 rfl (j := 2) rfl ?_
          refine wm_iload_n E dM_parent_119 rfl (j := 3) rfl ?_
          obtain ⟨x120, hc120, h⟩ := b1S h
          refine wm_cV (ci := 12) (As := [vI v1, vI v2, vI v3]) (st := []) E lk_M_205 rfl im_M_isAbove sl_M_isAbove (ov_rc _ _ _) (RC_M_isAbove (xl X) X.1 b (ρ) μ v1 v2 v3 _ hc120) rfl rfl (by rw [hR]; decide) (by rw [hR]; decide) (Nat.le_of_ble_eq_true rfl) dM_parent_120 ?_
          refine wm_if_eq (tgt := 131) E dM_parent_123 (by decide) (fun c123 => ?_) (fun c123 => ?_)
          · have h := (if_pos c123).symm.trans h
            refine wm_pick (lv' := [(0, vR (some b)), (1, vI v1), (2, vI v2), (3, vI v3), (4, vI v4)]) [0, 1, 2, 3, 4] rfl ?_
            exact rw_M_parent_131 E hQ hR hI hW v1 v2 v3 v4 (ρ) h
          · have h := (if_neg c123).symm.trans h
            refine wm_pick (lv' := [(0, vR (some b)), (1, vI v1), (2, vI v2), (3, vI v3), (4, vI v4)]) [0, 1, 2, 3, 4] rfl ?_
            exact rw_M_parent_126 E hQ hR hI hW v1 v2 v3 v4 (ρ) h
      · have h := (if_neg c102).symm.trans h
        exact wm_vret E hQ rfl (rrM h) (by decide) (by decide) dM_parent_105
    · have h := (if_neg c53).symm.trans h
      refine wm_aload_n E dM_parent_56 rfl (j := 0) rfl ?_
      refine wm_rget (v := vR (some (b + 15))) E fd_M_52 rfl dM_parent_57 ?_
      refine wm_iconst (x := 4) E dM_parent_60 (by decide) ?_
      refine wm_iload_n E dM_parent_61 rfl (j := 1) rfl ?_
      refine wm_imul E dM_parent_62 ?_
      refine wm_iload E dM_parent_63 (j := 5) rfl ?_
      refine wm_iadd E dM_parent_65 ?_
      refine wm_riald E (by decide) rfl rfl (by decide) (by decide) h dM_parent_66 (fun x66 h => ?_)
      refine wm_iload E dM_parent_67 (j := 4) rfl ?_
      refine wm_icmp_gt (tgt := 92) E dM_parent_69 (by decide) (fun c69 => ?_) (fun c69 => ?_)
      · have h := (if_pos c69).symm.trans h
        refine wm_pick (lv' := [(0, vR (some b)), (1, vI v1), (2, vI v2), (3, vI v3), (4, vI v4), (5, vI v5)]) [0, 1, 2, 3, 4, 5] rfl ?_
        exact rw_M_parent_92 E hQ hR hI hW (fun v1 v2 v3 v4 v5 ρ => RB_M_parent_45 n v1 v2 v3 v4 v5 ρ) ih v1 v2 v3 v4 v5 (ρ) h
      · have h := (if_neg c69).symm.trans h
        refine wm_iload_n E dM_parent_72 rfl (j := 3) rfl ?_
        refine wm_aload_n E dM_parent_73 rfl (j := 0) rfl ?_
        refine wm_rget (v := vR (some (b + 16))) E fd_M_55 rfl dM_parent_74 ?_
        refine wm_iconst (x := 4) E dM_parent_77 (by decide) ?_
        refine wm_iload_n E dM_parent_78 rfl (j := 1) rfl ?_
        refine wm_imul E dM_parent_79 ?_
        refine wm_iload E dM_parent_80 (j := 5) rfl ?_
        refine wm_iadd E dM_parent_82 ?_
        refine wm_riald E (by decide) rfl rfl (by decide) (by decide) h dM_parent_83 (fun x83 h => ?_)
        refine wm_icmp_gt (tgt := 92) E dM_parent_84 (by decide) (fun c84 => ?_) (fun c84 => ?_)
        · have h := (if_pos c84).symm.trans h
          refine wm_pick (lv' := [(0, vR (some b)), (1, vI v1), (2, vI v2), (3, vI v3), (4, vI v4), (5, vI v5)]) [0, 1, 2, 3, 4, 5] rfl ?_
          exact rw_M_parent_92 E hQ hR hI hW (fun v1 v2 v3 v4 v5 ρ => RB_M_parent_45 n v1 v2 v3 v4 v5 ρ) ih v1 v2 v3 v4 v5 (ρ) h
        · have h := (if_neg c84).symm.trans h
          refine wm_aload_n E dM_parent_87 rfl (j := 0) rfl ?_
          refine wm_iconst (x := 2) E dM_parent_88 (by decide) ?_
          refine wm_rpI E fp_M_132 (fun q => by cases q) rfl (by decide) hW dM_parent_89 ?_
          refine wm_rlet h (fun ρ89 h => ?_)
          refine wm_pick (lv' := [(0, vR (some b)), (1, vI v1), (2, vI v2), (3, vI v3), (4, vI v4), (5, vI v5)]) [0, 1, 2, 3, 4, 5] rfl ?_
          exact rw_M_parent_92 E hQ hR hI hW (fun v1 v2 v3 v4 v5 ρ => RB_M_parent_45 n v1 v2 v3 v4 v5 ρ) ih v1 v2 v3 v4 v5 (ρ89) h
def RB_M_parent_31  (v1 : Int32) (v2 : Int32) (v3 : Int32) (v4 : Int32) (s1 : Int32) (ρ : RS) : Option (Unit × RS) := b0 (rpI ρ 0 s1) (fun ρ31 => if (ri ρ31 0) ≤ 0 then RB_M_parent_45 fu v1 v2 v3 v4 0 (ρ31) else some ((), ρ31))
set_option maxHeartbeats 4000000 in
set_option maxRecDepth 100000 in
theorem rw_M_parent_31 {X : CX} (E : EV X prog_13_method_31_code 8 "PlaceFinderModel" none) {μ0 μ : Mem} {b : Nat} {r : Unit} {ρ' : RS} (hQ : RQ X 0 0 μ0 none (ov b ρ' μ)) (hR : xR X = { frames := 3, cells := 0, slots := 0, locals := 71 }) (hI : X.2.2.2.2.2.2.2.2.2.2.2.1.name = "parent") (hW : mW μ ≤ b)  (v1 : Int32) (v2 : Int32) (v3 : Int32) (v4 : Int32) (s1 : Int32) (ρ : RS) (h : RB_M_parent_31  v1 v2 v3 v4 s1 ρ = some (r, ρ')) : WM X 8 31 [(0, vR (some b)), (1, vI v1), (2, vI v2), (3, vI v3), (4, vI v4)] [vI s1, vR (some b)] 0 0 (ov b ρ μ) := by
  have h : (b0 (rpI ρ 0 s1) (fun ρ31 => if (ri ρ31 0) ≤ 0 then RB_M_parent_45 fu v1 v2 v3 v4 0 (ρ31) else some ((), ρ31))) = some (r, ρ') := h
  refine wm_rpI E fp_M_132 (fun q => by cases q) rfl (by decide) hW dM_parent_31 ?_
  refine wm_rlet h (fun ρ31 h => ?_)
  refine wm_aload_n E dM_parent_34 rfl (j := 0) rfl ?_
  refine wm_rget (v := vI (ri ρ31 0)) E fd_M_132 rfl dM_parent_35 ?_
  refine wm_if_le (tgt := 42) E dM_parent_38 (by decide) (fun c38 => ?_) (fun c38 => ?_)
  · have h := (if_pos c38).symm.trans h
    refine wm_iconst (x := 0) E dM_parent_42 (by decide) ?_
    refine wm_istore (lv' := [(5, vI 0), (0, vR (some b)), (1, vI v1), (2, vI v2), (3, vI v3), (4, vI v4)]) E dM_parent_43 (by decide) rfl ?_
    refine wm_pick (lv' := [(0, vR (some b)), (1, vI v1), (2, vI v2), (3, vI v3), (4, vI v4), (5, vI 0)]) [1, 2, 3, 4, 5, 0] rfl ?_
    exact rw_M_parent_45 E hQ hR hI hW fu v1 v2 v3 v4 0 (ρ31) h
  · have h := (if_neg c38).symm.trans h
    exact wm_vret E hQ rfl (rrM h) (by decide) (by decide) dM_parent_41
def RB_M_parent_26  (v1 : Int32) (v2 : Int32) (v3 : Int32) (v4 : Int32) (ρ : RS) : Option (Unit × RS) := RB_M_parent_31 v1 v2 v3 v4 1 (ρ)
set_option maxHeartbeats 4000000 in
set_option maxRecDepth 100000 in
theorem rw_M_parent_26 {X : CX} (E : EV X prog_13_method_31_code 8 "PlaceFinderModel" none) {μ0 μ : Mem} {b : Nat} {r : Unit} {ρ' : RS} (hQ : RQ X 0 0 μ0 none (ov b ρ' μ)) (hR : xR X = { frames := 3, cells := 0, slots := 0, locals := 71 }) (hI : X.2.2.2.2.2.2.2.2.2.2.2.1.name = "parent") (hW : mW μ ≤ b)  (v1 : Int32) (v2 : Int32) (v3 : Int32) (v4 : Int32) (ρ : RS) (h : RB_M_parent_26  v1 v2 v3 v4 ρ = some (r, ρ')) : WM X 8 26 [(0, vR (some b)), (1, vI v1), (2, vI v2), (3, vI v3), (4, vI v4)] [vR (some b)] 0 0 (ov b ρ μ) := by
  have h : (RB_M_parent_31 v1 v2 v3 v4 1 (ρ)) = some (r, ρ') := h
  refine wm_iconst (x := 1) E dM_parent_26 (by decide) ?_
  refine wm_goto (tgt := 31) E dM_parent_27 (by decide) ?_
  refine wm_pick (lv' := [(0, vR (some b)), (1, vI v1), (2, vI v2), (3, vI v3), (4, vI v4)]) [0, 1, 2, 3, 4] rfl ?_
  exact rw_M_parent_31 E hQ hR hI hW v1 v2 v3 v4 1 (ρ) h
def R_M_parent (v1 : Int32) (v2 : Int32) (v3 : Int32) (v4 : Int32) (ρ : RS) : Option (Unit × RS) := b1 (R_M_isPlace v1 (ρ)) (fun x3 => if x3 = 0 then RB_M_parent_26 v1 v2 v3 v4 (ρ) else b1 (R_M_isPlace v2 (ρ)) (fun x11 => if x11 = 0 then RB_M_parent_26 v1 v2 v3 v4 (ρ) else b1 (R_M_isSpan v3 v4) (fun x20 => if x20 = 0 then RB_M_parent_26 v1 v2 v3 v4 (ρ) else RB_M_parent_31 v1 v2 v3 v4 0 (ρ))))
set_option maxHeartbeats 4000000 in
set_option maxRecDepth 100000 in
theorem RC_M_parent (l : Launch) (G : GG) (b : Nat) (ρ : RS) (μ : Mem) (hW : mW μ ≤ b) (v1 : Int32) (v2 : Int32) (v3 : Int32) (v4 : Int32) (r : Unit) (ρ' : RS) (h : R_M_parent v1 v2 v3 v4 ρ = some (r, ρ')) : CT l G y_M_parent prog_13_method_31_code 8 none 3 0 0 71 (ov b ρ μ) [vR (some b), vI v1, vI v2, vI v3, vI v4] none (ov b ρ' μ) := by
  refine wm_met (lv := [(0, vR (some b)), (1, vI v1), (2, vI v2), (3, vI v3), (4, vI v4)]) (by decide +kernel) (Nat.le_of_ble_eq_true rfl) rfl (fun X E hQ hR hI => ?_)
  have h : (b1 (R_M_isPlace v1 (ρ)) (fun x3 => if x3 = 0 then RB_M_parent_26 v1 v2 v3 v4 (ρ) else b1 (R_M_isPlace v2 (ρ)) (fun x11 => if x11 = 0 then RB_M_parent_26 v1 v2 v3 v4 (ρ) else b1 (R_M_isSpan v3 v4) (fun x20 => if x20 = 0 then RB_M_parent_26 v1 v2 v3 v4 (ρ) else RB_M_parent_31 v1 v2 v3 v4 0 (ρ))))) = some (r, ρ') := h
  refine wm_aload_n E dM_parent_0 rfl (j := 0) rfl ?_
  refine wm_aload_n E dM_parent_1 rfl (j := 0) rfl ?_
  refine wm_iload_n E dM_parent_2 rfl (j := 1) rfl ?_
  obtain ⟨x3, hc3, h⟩ := b1S h
  refine wm_cV (ci := 12) (As := [vI v1]) (st := [vR (some b)]) E lk_M_154 rfl im_M_isPlace sl_M_isPlace (ov_rc _ _ _) (RC_M_isPlace (xl X) X.1 b (ρ) μ v1 _ hc3) rfl rfl (by rw [hR]; decide) (by rw [hR]; decide) (Nat.le_of_ble_eq_true rfl) dM_parent_3 ?_
  refine wm_if_eq (tgt := 26) E dM_parent_6 (by decide) (fun c6 => ?_) (fun c6 => ?_)
  · have h := (if_pos c6).symm.trans h
    refine wm_pick (lv' := [(0, vR (some b)), (1, vI v1), (2, vI v2), (3, vI v3), (4, vI v4)]) [0, 1, 2, 3, 4] rfl ?_
    exact rw_M_parent_26 E hQ hR hI hW v1 v2 v3 v4 (ρ) h
  · have h := (if_neg c6).symm.trans h
    refine wm_aload_n E dM_parent_9 rfl (j := 0) rfl ?_
    refine wm_iload_n E dM_parent_10 rfl (j := 2) rfl ?_
    obtain ⟨x11, hc11, h⟩ := b1S h
    refine wm_cV (ci := 12) (As := [vI v2]) (st := [vR (some b)]) E lk_M_154 rfl im_M_isPlace sl_M_isPlace (ov_rc _ _ _) (RC_M_isPlace (xl X) X.1 b (ρ) μ v2 _ hc11) rfl rfl (by rw [hR]; decide) (by rw [hR]; decide) (Nat.le_of_ble_eq_true rfl) dM_parent_11 ?_
    refine wm_if_eq (tgt := 26) E dM_parent_14 (by decide) (fun c14 => ?_) (fun c14 => ?_)
    · have h := (if_pos c14).symm.trans h
      refine wm_pick (lv' := [(0, vR (some b)), (1, vI v1), (2, vI v2), (3, vI v3), (4, vI v4)]) [0, 1, 2, 3, 4] rfl ?_
      exact rw_M_parent_26 E hQ hR hI hW v1 v2 v3 v4 (ρ) h
    · have h := (if_neg c14).symm.trans h
      refine wm_iload_n E dM_parent_17 rfl (j := 3) rfl ?_
      refine wm_iload E dM_parent_18 (j := 4) rfl ?_
      obtain ⟨x20, hc20, h⟩ := b1S h
      refine wm_cS (As := [vI v3, vI v4]) (st := [vR (some b)]) E lk_M_195 sc_M_isSpan (RC_M_isSpan (xl X) X.1 v3 v4 _ _ hc20) rfl rfl (by rw [hR]; decide) (by rw [hR]; decide) (Nat.le_of_ble_eq_true rfl) dM_parent_20 ?_
      refine wm_if_ne (tgt := 30) E dM_parent_23 (by decide) (fun c23 => ?_) (fun c23 => ?_)
      · have h := (if_neg c23).symm.trans h
        refine wm_iconst (x := 0) E dM_parent_30 (by decide) ?_
        refine wm_pick (lv' := [(0, vR (some b)), (1, vI v1), (2, vI v2), (3, vI v3), (4, vI v4)]) [0, 1, 2, 3, 4] rfl ?_
        exact rw_M_parent_31 E hQ hR hI hW v1 v2 v3 v4 0 (ρ) h
      · have h := (if_pos c23).symm.trans h
        refine wm_pick (lv' := [(0, vR (some b)), (1, vI v1), (2, vI v2), (3, vI v3), (4, vI v4)]) [0, 1, 2, 3, 4] rfl ?_
        exact rw_M_parent_26 E hQ hR hI hW v1 v2 v3 v4 (ρ) h
def RB_M_remove_52   (ρ : RS) : Option (Unit × RS) := some ((), ρ)
set_option maxHeartbeats 4000000 in
set_option maxRecDepth 100000 in
theorem rw_M_remove_52 {X : CX} (E : EV X prog_13_method_32_code 3 "PlaceFinderModel" none) {μ0 μ : Mem} {b : Nat} {r : Unit} {ρ' : RS} (hQ : RQ X 0 0 μ0 none (ov b ρ' μ)) (hR : xR X = { frames := 2, cells := 0, slots := 0, locals := 43 }) (hI : X.2.2.2.2.2.2.2.2.2.2.2.1.name = "remove") (hW : mW μ ≤ b)   (ρ : RS) (h : RB_M_remove_52  ρ = some (r, ρ')) : WM X 3 52 [] [] 0 0 (ov b ρ μ) := by
  have h : (some ((), ρ)) = some (r, ρ') := h
  exact wm_vret E hQ rfl (rrM h) (by decide) (by decide) dM_remove_52
def RB_M_remove_35  (v1 : Int32) (v2 : Int32) (s1 : Int32) (ρ : RS) : Option (Unit × RS) := b0 (rpI ρ 0 s1) (fun ρ35 => if (ri ρ35 0) = 0 then b1 (rsI ρ35 3 30 v1 v2) (fun ρ51 => RB_M_remove_52 (ρ51)) else RB_M_remove_52 (ρ35))
set_option maxHeartbeats 4000000 in
set_option maxRecDepth 100000 in
theorem rw_M_remove_35 {X : CX} (E : EV X prog_13_method_32_code 3 "PlaceFinderModel" none) {μ0 μ : Mem} {b : Nat} {r : Unit} {ρ' : RS} (hQ : RQ X 0 0 μ0 none (ov b ρ' μ)) (hR : xR X = { frames := 2, cells := 0, slots := 0, locals := 43 }) (hI : X.2.2.2.2.2.2.2.2.2.2.2.1.name = "remove") (hW : mW μ ≤ b)  (v1 : Int32) (v2 : Int32) (s1 : Int32) (ρ : RS) (h : RB_M_remove_35  v1 v2 s1 ρ = some (r, ρ')) : WM X 3 35 [(0, vR (some b)), (1, vI v1), (2, vI v2)] [vI s1, vR (some b)] 0 0 (ov b ρ μ) := by
  have h : (b0 (rpI ρ 0 s1) (fun ρ35 => if (ri ρ35 0) = 0 then b1 (rsI ρ35 3 30 v1 v2) (fun ρ51 => RB_M_remove_52 (ρ51)) else RB_M_remove_52 (ρ35))) = some (r, ρ') := h
  refine wm_rpI E fp_M_132 (fun q => by cases q) rfl (by decide) hW dM_remove_35 ?_
  refine wm_rlet h (fun ρ35 h => ?_)
  refine wm_aload_n E dM_remove_38 rfl (j := 0) rfl ?_
  refine wm_rget (v := vI (ri ρ35 0)) E fd_M_132 rfl dM_remove_39 ?_
  refine wm_if_ne (tgt := 52) E dM_remove_42 (by decide) (fun c42 => ?_) (fun c42 => ?_)
  · have h := (if_neg c42).symm.trans h
    refine wm_pick (lv' := []) [] rfl ?_
    exact rw_M_remove_52 E hQ hR hI hW (ρ35) h
  · have h := (if_pos c42).symm.trans h
    refine wm_aload_n E dM_remove_45 rfl (j := 0) rfl ?_
    refine wm_rget (v := vR (some (b + 2))) E fd_M_13 rfl dM_remove_46 ?_
    refine wm_iload_n E dM_remove_49 rfl (j := 1) rfl ?_
    refine wm_iload_n E dM_remove_50 rfl (j := 2) rfl ?_
    refine wm_riast E (by decide) rfl rfl (by decide) (by decide) hW h dM_remove_51 (fun ρ51 h => ?_)
    refine wm_pick (lv' := []) [] rfl ?_
    exact rw_M_remove_52 E hQ hR hI hW (ρ51) h
def RB_M_remove_16  (v1 : Int32) (v2 : Int32) (ρ : RS) : Option (Unit × RS) := RB_M_remove_35 v1 v2 1 (ρ)
set_option maxHeartbeats 4000000 in
set_option maxRecDepth 100000 in
theorem rw_M_remove_16 {X : CX} (E : EV X prog_13_method_32_code 3 "PlaceFinderModel" none) {μ0 μ : Mem} {b : Nat} {r : Unit} {ρ' : RS} (hQ : RQ X 0 0 μ0 none (ov b ρ' μ)) (hR : xR X = { frames := 2, cells := 0, slots := 0, locals := 43 }) (hI : X.2.2.2.2.2.2.2.2.2.2.2.1.name = "remove") (hW : mW μ ≤ b)  (v1 : Int32) (v2 : Int32) (ρ : RS) (h : RB_M_remove_16  v1 v2 ρ = some (r, ρ')) : WM X 3 16 [(0, vR (some b)), (1, vI v1), (2, vI v2)] [vR (some b)] 0 0 (ov b ρ μ) := by
  have h : (RB_M_remove_35 v1 v2 1 (ρ)) = some (r, ρ') := h
  refine wm_iconst (x := 1) E dM_remove_16 (by decide) ?_
  refine wm_goto (tgt := 35) E dM_remove_17 (by decide) ?_
  refine wm_pick (lv' := [(0, vR (some b)), (1, vI v1), (2, vI v2)]) [0, 1, 2] rfl ?_
  exact rw_M_remove_35 E hQ hR hI hW v1 v2 1 (ρ) h
def R_M_remove (v1 : Int32) (v2 : Int32) (ρ : RS) : Option (Unit × RS) := b1 (R_M_isPlace v1 (ρ)) (fun x3 => if x3 = 0 then RB_M_remove_16 v1 v2 (ρ) else b1 (R_M_isDay v2) (fun x10 => if x10 = 0 then RB_M_remove_16 v1 v2 (ρ) else b1 (rgI ρ 3 30 v1) (fun x25 => if v2 < x25 then RB_M_remove_35 v1 v2 0 (ρ) else RB_M_remove_35 v1 v2 2 (ρ))))
set_option maxHeartbeats 4000000 in
set_option maxRecDepth 100000 in
theorem RC_M_remove (l : Launch) (G : GG) (b : Nat) (ρ : RS) (μ : Mem) (hW : mW μ ≤ b) (v1 : Int32) (v2 : Int32) (r : Unit) (ρ' : RS) (h : R_M_remove v1 v2 ρ = some (r, ρ')) : CT l G y_M_remove prog_13_method_32_code 3 none 2 0 0 43 (ov b ρ μ) [vR (some b), vI v1, vI v2] none (ov b ρ' μ) := by
  refine wm_met (lv := [(0, vR (some b)), (1, vI v1), (2, vI v2)]) (by decide +kernel) (Nat.le_of_ble_eq_true rfl) rfl (fun X E hQ hR hI => ?_)
  have h : (b1 (R_M_isPlace v1 (ρ)) (fun x3 => if x3 = 0 then RB_M_remove_16 v1 v2 (ρ) else b1 (R_M_isDay v2) (fun x10 => if x10 = 0 then RB_M_remove_16 v1 v2 (ρ) else b1 (rgI ρ 3 30 v1) (fun x25 => if v2 < x25 then RB_M_remove_35 v1 v2 0 (ρ) else RB_M_remove_35 v1 v2 2 (ρ))))) = some (r, ρ') := h
  refine wm_aload_n E dM_remove_0 rfl (j := 0) rfl ?_
  refine wm_aload_n E dM_remove_1 rfl (j := 0) rfl ?_
  refine wm_iload_n E dM_remove_2 rfl (j := 1) rfl ?_
  obtain ⟨x3, hc3, h⟩ := b1S h
  refine wm_cV (ci := 12) (As := [vI v1]) (st := [vR (some b)]) E lk_M_154 rfl im_M_isPlace sl_M_isPlace (ov_rc _ _ _) (RC_M_isPlace (xl X) X.1 b (ρ) μ v1 _ hc3) rfl rfl (by rw [hR]; decide) (by rw [hR]; decide) (Nat.le_of_ble_eq_true rfl) dM_remove_3 ?_
  refine wm_if_eq (tgt := 16) E dM_remove_6 (by decide) (fun c6 => ?_) (fun c6 => ?_)
  · have h := (if_pos c6).symm.trans h
    refine wm_pick (lv' := [(0, vR (some b)), (1, vI v1), (2, vI v2)]) [0, 1, 2] rfl ?_
    exact rw_M_remove_16 E hQ hR hI hW v1 v2 (ρ) h
  · have h := (if_neg c6).symm.trans h
    refine wm_iload_n E dM_remove_9 rfl (j := 2) rfl ?_
    obtain ⟨x10, hc10, h⟩ := b1S h
    refine wm_cS (As := [vI v2]) (st := [vR (some b)]) E lk_M_143 sc_M_isDay (RC_M_isDay (xl X) X.1 v2 _ _ hc10) rfl rfl (by rw [hR]; decide) (by rw [hR]; decide) (Nat.le_of_ble_eq_true rfl) dM_remove_10 ?_
    refine wm_if_ne (tgt := 20) E dM_remove_13 (by decide) (fun c13 => ?_) (fun c13 => ?_)
    · have h := (if_neg c13).symm.trans h
      refine wm_aload_n E dM_remove_20 rfl (j := 0) rfl ?_
      refine wm_rget (v := vR (some (b + 2))) E fd_M_13 rfl dM_remove_21 ?_
      refine wm_iload_n E dM_remove_24 rfl (j := 1) rfl ?_
      refine wm_riald E (by decide) rfl rfl (by decide) (by decide) h dM_remove_25 (fun x25 h => ?_)
      refine wm_iload_n E dM_remove_26 rfl (j := 2) rfl ?_
      refine wm_icmp_gt (tgt := 34) E dM_remove_27 (by decide) (fun c27 => ?_) (fun c27 => ?_)
      · have h := (if_pos c27).symm.trans h
        refine wm_iconst (x := 0) E dM_remove_34 (by decide) ?_
        refine wm_pick (lv' := [(0, vR (some b)), (1, vI v1), (2, vI v2)]) [0, 1, 2] rfl ?_
        exact rw_M_remove_35 E hQ hR hI hW v1 v2 0 (ρ) h
      · have h := (if_neg c27).symm.trans h
        refine wm_iconst (x := 2) E dM_remove_30 (by decide) ?_
        refine wm_goto (tgt := 35) E dM_remove_31 (by decide) ?_
        refine wm_pick (lv' := [(0, vR (some b)), (1, vI v1), (2, vI v2)]) [0, 1, 2] rfl ?_
        exact rw_M_remove_35 E hQ hR hI hW v1 v2 2 (ρ) h
    · have h := (if_pos c13).symm.trans h
      refine wm_pick (lv' := [(0, vR (some b)), (1, vI v1), (2, vI v2)]) [0, 1, 2] rfl ?_
      exact rw_M_remove_16 E hQ hR hI hW v1 v2 (ρ) h
def RB_M_chain_75  (v4 : Int32) (ρ : RS) : Option (Int32 × RS) := some (v4, ρ)
set_option maxHeartbeats 4000000 in
set_option maxRecDepth 100000 in
theorem rw_M_chain_75 {X : CX} (E : EV X prog_13_method_33_code 6 "PlaceFinderModel" (some .int)) {μ0 μ : Mem} {b : Nat} {r : Int32} {ρ' : RS} (hQ : RQ X 0 0 μ0 (some (vI r)) (ov b ρ' μ)) (hR : xR X = { frames := 2, cells := 0, slots := 0, locals := 46 }) (hI : X.2.2.2.2.2.2.2.2.2.2.2.1.name = "chain") (hW : mW μ ≤ b)  (v4 : Int32) (ρ : RS) (h : RB_M_chain_75  v4 ρ = some (r, ρ')) : WM X 6 75 [(4, vI v4)] [] 0 0 (ov b ρ μ) := by
  have h : (some (v4, ρ)) = some (r, ρ') := h
  refine wm_iload E dM_chain_75 (j := 0) rfl ?_
  exact wm_iret (rt := .int) E hQ (rrI h) (rrM h) (by decide) (by decide) dM_chain_77
def RB_M_chain_48  : Nat → Int32 → Int32 → Int32 → Int32 → RS → Option (Int32 × RS)
  | 0, _, _, _, _, _ => none
  | n + 1, v2, v3, v4, v5, ρ => if v3 ≤ v5 then RB_M_chain_75 v4 (ρ) else if v4 = ((-1)) then RB_M_chain_75 v4 (ρ) else b1 (R_M_parentOf v4 v2 (ρ)) (fun x64 => (fun v2 v3 v4 v5 ρ => RB_M_chain_48 n v2 v3 v4 v5 ρ) v2 v3 x64 (v5 + 1) (ρ))
set_option maxHeartbeats 4000000 in
set_option maxRecDepth 100000 in
theorem rw_M_chain_48 {X : CX} (E : EV X prog_13_method_33_code 6 "PlaceFinderModel" (some .int)) {μ0 μ : Mem} {b : Nat} {r : Int32} {ρ' : RS} (hQ : RQ X 0 0 μ0 (some (vI r)) (ov b ρ' μ)) (hR : xR X = { frames := 2, cells := 0, slots := 0, locals := 46 }) (hI : X.2.2.2.2.2.2.2.2.2.2.2.1.name = "chain") (hW : mW μ ≤ b)  (n : Nat) : ∀ (v2 : Int32) (v3 : Int32) (v4 : Int32) (v5 : Int32) (ρ : RS) (h : RB_M_chain_48  n v2 v3 v4 v5 ρ = some (r, ρ')), WM X 6 48 [(0, vR (some b)), (2, vI v2), (3, vI v3), (4, vI v4), (5, vI v5)] [] 0 0 (ov b ρ μ) := by
  induction n with
  | zero => intro v2 v3 v4 v5 ρ h; cases h
  | succ n ih =>
    intro v2 v3 v4 v5 ρ h
    have h : (if v3 ≤ v5 then RB_M_chain_75 v4 (ρ) else if v4 = ((-1)) then RB_M_chain_75 v4 (ρ) else b1 (R_M_parentOf v4 v2 (ρ)) (fun x64 => (fun v2 v3 v4 v5 ρ => RB_M_chain_48 n v2 v3 v4 v5 ρ) v2 v3 x64 (v5 + 1) (ρ))) = some (r, ρ') := h
    refine wm_iload E dM_chain_48 (j := 4) rfl ?_
    refine wm_iload_n E dM_chain_50 rfl (j := 2) rfl ?_
    refine wm_icmp_ge (tgt := 75) E dM_chain_51 (by decide) (fun c51 => ?_) (fun c51 => ?_)
    · have h := (if_pos c51).symm.trans h
      refine wm_pick (lv' := [(4, vI v4)]) [3] rfl ?_
      exact rw_M_chain_75 E hQ hR hI hW v4 (ρ) h
    · have h := (if_neg c51).symm.trans h
      refine wm_iload E dM_chain_54 (j := 3) rfl ?_
      refine wm_iconst (x := -1) E dM_chain_56 (by decide) ?_
      refine wm_icmp_eq (tgt := 75) E dM_chain_57 (by decide) (fun c57 => ?_) (fun c57 => ?_)
      · have h := (if_pos c57).symm.trans h
        refine wm_pick (lv' := [(4, vI v4)]) [3] rfl ?_
        exact rw_M_chain_75 E hQ hR hI hW v4 (ρ) h
      · have h := (if_neg c57).symm.trans h
        refine wm_aload_n E dM_chain_60 rfl (j := 0) rfl ?_
        refine wm_iload E dM_chain_61 (j := 3) rfl ?_
        refine wm_iload_n E dM_chain_63 rfl (j := 1) rfl ?_
        obtain ⟨x64, hc64, h⟩ := b1S h
        refine wm_cV (ci := 12) (As := [vI v4, vI v2]) (st := []) E lk_M_202 rfl im_M_parentOf sl_M_parentOf (ov_rc _ _ _) (RC_M_parentOf (xl X) X.1 b (ρ) μ v4 v2 _ hc64) rfl rfl (by rw [hR]; decide) (by rw [hR]; decide) (Nat.le_of_ble_eq_true rfl) dM_chain_64 ?_
        refine wm_istore (lv' := [(4, vI x64), (0, vR (some b)), (2, vI v2), (3, vI v3), (5, vI v5)]) E dM_chain_67 (by decide) rfl ?_
        refine wm_iinc (lv' := [(5, vI (v5 + 1)), (4, vI x64), (0, vR (some b)), (2, vI v2), (3, vI v3)]) (d := 1) E dM_chain_69 (by decide) (j := 4) rfl (by decide) rfl ?_
        refine wm_goto (tgt := 48) E dM_chain_72 (by decide) ?_
        refine wm_pick (lv' := [(0, vR (some b)), (2, vI v2), (3, vI v3), (4, vI x64), (5, vI (v5 + 1))]) [2, 3, 4, 1, 0] rfl ?_
        exact ih v2 v3 x64 (v5 + 1) (ρ) h
def RB_M_chain_25  (v1 : Int32) (v2 : Int32) (v3 : Int32) (s1 : Int32) (ρ : RS) : Option (Int32 × RS) := b0 (rpI ρ 0 s1) (fun ρ25 => if (ri ρ25 0) ≤ 0 then b1 (R_M_parentOf v1 v2 (ρ25)) (fun x40 => RB_M_chain_48 fu v2 v3 x40 0 (ρ25)) else some (0, ρ25))
set_option maxHeartbeats 4000000 in
set_option maxRecDepth 100000 in
theorem rw_M_chain_25 {X : CX} (E : EV X prog_13_method_33_code 6 "PlaceFinderModel" (some .int)) {μ0 μ : Mem} {b : Nat} {r : Int32} {ρ' : RS} (hQ : RQ X 0 0 μ0 (some (vI r)) (ov b ρ' μ)) (hR : xR X = { frames := 2, cells := 0, slots := 0, locals := 46 }) (hI : X.2.2.2.2.2.2.2.2.2.2.2.1.name = "chain") (hW : mW μ ≤ b)  (v1 : Int32) (v2 : Int32) (v3 : Int32) (s1 : Int32) (ρ : RS) (h : RB_M_chain_25  v1 v2 v3 s1 ρ = some (r, ρ')) : WM X 6 25 [(0, vR (some b)), (1, vI v1), (2, vI v2), (3, vI v3)] [vI s1, vR (some b)] 0 0 (ov b ρ μ) := by
  have h : (b0 (rpI ρ 0 s1) (fun ρ25 => if (ri ρ25 0) ≤ 0 then b1 (R_M_parentOf v1 v2 (ρ25)) (fun x40 => RB_M_chain_48 fu v2 v3 x40 0 (ρ25)) else some (0, ρ25))) = some (r, ρ') := h
  refine wm_rpI E fp_M_132 (fun q => by cases q) rfl (by decide) hW dM_chain_25 ?_
  refine wm_rlet h (fun ρ25 h => ?_)
  refine wm_aload_n E dM_chain_28 rfl (j := 0) rfl ?_
  refine wm_rget (v := vI (ri ρ25 0)) E fd_M_132 rfl dM_chain_29 ?_
  refine wm_if_le (tgt := 37) E dM_chain_32 (by decide) (fun c32 => ?_) (fun c32 => ?_)
  · have h := (if_pos c32).symm.trans h
    refine wm_aload_n E dM_chain_37 rfl (j := 0) rfl ?_
    refine wm_iload_n E dM_chain_38 rfl (j := 1) rfl ?_
    refine wm_iload_n E dM_chain_39 rfl (j := 2) rfl ?_
    obtain ⟨x40, hc40, h⟩ := b1S h
    refine wm_cV (ci := 12) (As := [vI v1, vI v2]) (st := []) E lk_M_202 rfl im_M_parentOf sl_M_parentOf (ov_rc _ _ _) (RC_M_parentOf (xl X) X.1 b (ρ25) μ v1 v2 _ hc40) rfl rfl (by rw [hR]; decide) (by rw [hR]; decide) (Nat.le_of_ble_eq_true rfl) dM_chain_40 ?_
    refine wm_istore (lv' := [(4, vI x40), (0, vR (some b)), (1, vI v1), (2, vI v2), (3, vI v3)]) E dM_chain_43 (by decide) rfl ?_
    refine wm_iconst (x := 0) E dM_chain_45 (by decide) ?_
    refine wm_istore (lv' := [(5, vI 0), (4, vI x40), (0, vR (some b)), (1, vI v1), (2, vI v2), (3, vI v3)]) E dM_chain_46 (by decide) rfl ?_
    refine wm_pick (lv' := [(0, vR (some b)), (2, vI v2), (3, vI v3), (4, vI x40), (5, vI 0)]) [2, 4, 5, 1, 0] rfl ?_
    exact rw_M_chain_48 E hQ hR hI hW fu v2 v3 x40 0 (ρ25) h
  · have h := (if_neg c32).symm.trans h
    refine wm_iconst (x := 0) E dM_chain_35 (by decide) ?_
    exact wm_iret (rt := .int) E hQ (rrI h) (rrM h) (by decide) (by decide) dM_chain_36
def RB_M_chain_20  (v1 : Int32) (v2 : Int32) (v3 : Int32) (ρ : RS) : Option (Int32 × RS) := RB_M_chain_25 v1 v2 v3 1 (ρ)
set_option maxHeartbeats 4000000 in
set_option maxRecDepth 100000 in
theorem rw_M_chain_20 {X : CX} (E : EV X prog_13_method_33_code 6 "PlaceFinderModel" (some .int)) {μ0 μ : Mem} {b : Nat} {r : Int32} {ρ' : RS} (hQ : RQ X 0 0 μ0 (some (vI r)) (ov b ρ' μ)) (hR : xR X = { frames := 2, cells := 0, slots := 0, locals := 46 }) (hI : X.2.2.2.2.2.2.2.2.2.2.2.1.name = "chain") (hW : mW μ ≤ b)  (v1 : Int32) (v2 : Int32) (v3 : Int32) (ρ : RS) (h : RB_M_chain_20  v1 v2 v3 ρ = some (r, ρ')) : WM X 6 20 [(0, vR (some b)), (1, vI v1), (2, vI v2), (3, vI v3)] [vR (some b)] 0 0 (ov b ρ μ) := by
  have h : (RB_M_chain_25 v1 v2 v3 1 (ρ)) = some (r, ρ') := h
  refine wm_iconst (x := 1) E dM_chain_20 (by decide) ?_
  refine wm_goto (tgt := 25) E dM_chain_21 (by decide) ?_
  refine wm_pick (lv' := [(0, vR (some b)), (1, vI v1), (2, vI v2), (3, vI v3)]) [0, 1, 2, 3] rfl ?_
  exact rw_M_chain_25 E hQ hR hI hW v1 v2 v3 1 (ρ) h
def R_M_chain (v1 : Int32) (v2 : Int32) (v3 : Int32) (ρ : RS) : Option (Int32 × RS) := b1 (R_M_isPlace v1 (ρ)) (fun x3 => if x3 = 0 then RB_M_chain_20 v1 v2 v3 (ρ) else b1 (R_M_isDay v2) (fun x10 => if x10 = 0 then RB_M_chain_20 v1 v2 v3 (ρ) else if 0 ≤ v3 then RB_M_chain_25 v1 v2 v3 0 (ρ) else RB_M_chain_20 v1 v2 v3 (ρ)))
set_option maxHeartbeats 4000000 in
set_option maxRecDepth 100000 in
theorem RC_M_chain (l : Launch) (G : GG) (b : Nat) (ρ : RS) (μ : Mem) (hW : mW μ ≤ b) (v1 : Int32) (v2 : Int32) (v3 : Int32) (r : Int32) (ρ' : RS) (h : R_M_chain v1 v2 v3 ρ = some (r, ρ')) : CT l G y_M_chain prog_13_method_33_code 6 (some .int) 2 0 0 46 (ov b ρ μ) [vR (some b), vI v1, vI v2, vI v3] (some (vI r)) (ov b ρ' μ) := by
  refine wm_met (lv := [(0, vR (some b)), (1, vI v1), (2, vI v2), (3, vI v3)]) (by decide +kernel) (Nat.le_of_ble_eq_true rfl) rfl (fun X E hQ hR hI => ?_)
  have h : (b1 (R_M_isPlace v1 (ρ)) (fun x3 => if x3 = 0 then RB_M_chain_20 v1 v2 v3 (ρ) else b1 (R_M_isDay v2) (fun x10 => if x10 = 0 then RB_M_chain_20 v1 v2 v3 (ρ) else if 0 ≤ v3 then RB_M_chain_25 v1 v2 v3 0 (ρ) else RB_M_chain_20 v1 v2 v3 (ρ)))) = some (r, ρ') := h
  refine wm_aload_n E dM_chain_0 rfl (j := 0) rfl ?_
  refine wm_aload_n E dM_chain_1 rfl (j := 0) rfl ?_
  refine wm_iload_n E dM_chain_2 rfl (j := 1) rfl ?_
  obtain ⟨x3, hc3, h⟩ := b1S h
  refine wm_cV (ci := 12) (As := [vI v1]) (st := [vR (some b)]) E lk_M_154 rfl im_M_isPlace sl_M_isPlace (ov_rc _ _ _) (RC_M_isPlace (xl X) X.1 b (ρ) μ v1 _ hc3) rfl rfl (by rw [hR]; decide) (by rw [hR]; decide) (Nat.le_of_ble_eq_true rfl) dM_chain_3 ?_
  refine wm_if_eq (tgt := 20) E dM_chain_6 (by decide) (fun c6 => ?_) (fun c6 => ?_)
  · have h := (if_pos c6).symm.trans h
    refine wm_pick (lv' := [(0, vR (some b)), (1, vI v1), (2, vI v2), (3, vI v3)]) [0, 1, 2, 3] rfl ?_
    exact rw_M_chain_20 E hQ hR hI hW v1 v2 v3 (ρ) h
  · have h := (if_neg c6).symm.trans h
    refine wm_iload_n E dM_chain_9 rfl (j := 2) rfl ?_
    obtain ⟨x10, hc10, h⟩ := b1S h
    refine wm_cS (As := [vI v2]) (st := [vR (some b)]) E lk_M_143 sc_M_isDay (RC_M_isDay (xl X) X.1 v2 _ _ hc10) rfl rfl (by rw [hR]; decide) (by rw [hR]; decide) (Nat.le_of_ble_eq_true rfl) dM_chain_10 ?_
    refine wm_if_eq (tgt := 20) E dM_chain_13 (by decide) (fun c13 => ?_) (fun c13 => ?_)
    · have h := (if_pos c13).symm.trans h
      refine wm_pick (lv' := [(0, vR (some b)), (1, vI v1), (2, vI v2), (3, vI v3)]) [0, 1, 2, 3] rfl ?_
      exact rw_M_chain_20 E hQ hR hI hW v1 v2 v3 (ρ) h
    · have h := (if_neg c13).symm.trans h
      refine wm_iload_n E dM_chain_16 rfl (j := 3) rfl ?_
      refine wm_if_ge (tgt := 24) E dM_chain_17 (by decide) (fun c17 => ?_) (fun c17 => ?_)
      · have h := (if_pos c17).symm.trans h
        refine wm_iconst (x := 0) E dM_chain_24 (by decide) ?_
        refine wm_pick (lv' := [(0, vR (some b)), (1, vI v1), (2, vI v2), (3, vI v3)]) [0, 1, 2, 3] rfl ?_
        exact rw_M_chain_25 E hQ hR hI hW v1 v2 v3 0 (ρ) h
      · have h := (if_neg c17).symm.trans h
        refine wm_pick (lv' := [(0, vR (some b)), (1, vI v1), (2, vI v2), (3, vI v3)]) [0, 1, 2, 3] rfl ?_
        exact rw_M_chain_20 E hQ hR hI hW v1 v2 v3 (ρ) h
def RB_M_condition_295   (ρ : RS) : Option (Int32 × RS) := b1 (rgI ρ 23 5 0) (fun x300 => some (x300, ρ))
set_option maxHeartbeats 4000000 in
set_option maxRecDepth 100000 in
theorem rw_M_condition_295 {X : CX} (E : EV X prog_13_method_34_code 8 "PlaceFinderModel" (some .int)) {μ0 μ : Mem} {b : Nat} {r : Int32} {ρ' : RS} (hQ : RQ X 0 0 μ0 (some (vI r)) (ov b ρ' μ)) (hR : xR X = { frames := 3, cells := 0, slots := 0, locals := 67 }) (hI : X.2.2.2.2.2.2.2.2.2.2.2.1.name = "condition") (hW : mW μ ≤ b)   (ρ : RS) (h : RB_M_condition_295  ρ = some (r, ρ')) : WM X 8 295 [(0, vR (some b))] [] 0 0 (ov b ρ μ) := by
  have h : (b1 (rgI ρ 23 5 0) (fun x300 => some (x300, ρ))) = some (r, ρ') := h
  refine wm_aload_n E dM_condition_295 rfl (j := 0) rfl ?_
  refine wm_rget (v := vR (some (b + 20))) E fd_M_67 rfl dM_condition_296 ?_
  refine wm_iconst (x := 0) E dM_condition_299 (by decide) ?_
  refine wm_riald E (by decide) rfl rfl (by decide) (by decide) h dM_condition_300 (fun x300 h => ?_)
  exact wm_iret (rt := .int) E hQ (rrI h) (rrM h) (by decide) (by decide) dM_condition_301
def RB_M_condition_255  : Nat → Int32 → Int32 → RS → Option (Int32 × RS)
  | 0, _, _, _ => none
  | n + 1, v6, v7, ρ => if (ri ρ 38) ≤ v7 then b0 (rpI ρ 21 0) (fun ρ292 => RB_M_condition_295 (ρ292)) else b1 (rgI ρ 39 10 v7) (fun x282 => b1 (rsI ρ 29 250 ((10 * v6) + v7) x282) (fun ρ283 => (fun v6 v7 ρ => RB_M_condition_255 n v6 v7 ρ) v6 (v7 + 1) (ρ283)))
set_option maxHeartbeats 4000000 in
set_option maxRecDepth 100000 in
theorem rw_M_condition_255 {X : CX} (E : EV X prog_13_method_34_code 8 "PlaceFinderModel" (some .int)) {μ0 μ : Mem} {b : Nat} {r : Int32} {ρ' : RS} (hQ : RQ X 0 0 μ0 (some (vI r)) (ov b ρ' μ)) (hR : xR X = { frames := 3, cells := 0, slots := 0, locals := 67 }) (hI : X.2.2.2.2.2.2.2.2.2.2.2.1.name = "condition") (hW : mW μ ≤ b)  (n : Nat) : ∀ (v6 : Int32) (v7 : Int32) (ρ : RS) (h : RB_M_condition_255  n v6 v7 ρ = some (r, ρ')), WM X 8 255 [(0, vR (some b)), (6, vI v6), (7, vI v7)] [] 0 0 (ov b ρ μ) := by
  induction n with
  | zero => intro v6 v7 ρ h; cases h
  | succ n ih =>
    intro v6 v7 ρ h
    have h : (if (ri ρ 38) ≤ v7 then b0 (rpI ρ 21 0) (fun ρ292 => RB_M_condition_295 (ρ292)) else b1 (rgI ρ 39 10 v7) (fun x282 => b1 (rsI ρ 29 250 ((10 * v6) + v7) x282) (fun ρ283 => (fun v6 v7 ρ => RB_M_condition_255 n v6 v7 ρ) v6 (v7 + 1) (ρ283)))) = some (r, ρ') := h
    refine wm_iload E dM_condition_255 (j := 2) rfl ?_
    refine wm_aload_n E dM_condition_257 rfl (j := 0) rfl ?_
    refine wm_rget (v := vI (ri ρ 38)) E fd_M_179 rfl dM_condition_258 ?_
    refine wm_icmp_ge (tgt := 290) E dM_condition_261 (by decide) (fun c261 => ?_) (fun c261 => ?_)
    · have h := (if_pos c261).symm.trans h
      refine wm_aload_n E dM_condition_290 rfl (j := 0) rfl ?_
      refine wm_iconst (x := 0) E dM_condition_291 (by decide) ?_
      refine wm_rpI E fp_M_172 (fun q => by cases q) rfl (by decide) hW dM_condition_292 ?_
      refine wm_rlet h (fun ρ292 h => ?_)
      refine wm_pick (lv' := [(0, vR (some b))]) [0] rfl ?_
      exact rw_M_condition_295 E hQ hR hI hW (ρ292) h
    · have h := (if_neg c261).symm.trans h
      refine wm_aload_n E dM_condition_264 rfl (j := 0) rfl ?_
      refine wm_rget (v := vR (some (b + 26))) E fd_M_85 rfl dM_condition_265 ?_
      refine wm_bipush (x := 10) E dM_condition_268 (by decide) ?_
      refine wm_iload E dM_condition_270 (j := 1) rfl ?_
      refine wm_imul E dM_condition_272 ?_
      refine wm_iload E dM_condition_273 (j := 2) rfl ?_
      refine wm_iadd E dM_condition_275 ?_
      refine wm_aload_n E dM_condition_276 rfl (j := 0) rfl ?_
      refine wm_rget (v := vR (some (b + 34))) E fd_M_110 rfl dM_condition_277 ?_
      refine wm_iload E dM_condition_280 (j := 2) rfl ?_
      refine wm_riald E (by decide) rfl rfl (by decide) (by decide) h dM_condition_282 (fun x282 h => ?_)
      refine wm_riast E (by decide) rfl rfl (by decide) (by decide) hW h dM_condition_283 (fun ρ283 h => ?_)
      refine wm_iinc (lv' := [(7, vI (v7 + 1)), (0, vR (some b)), (6, vI v6)]) (d := 1) E dM_condition_284 (by decide) (j := 2) rfl (by decide) rfl ?_
      refine wm_goto (tgt := 255) E dM_condition_287 (by decide) ?_
      refine wm_pick (lv' := [(0, vR (some b)), (6, vI v6), (7, vI (v7 + 1))]) [1, 2, 0] rfl ?_
      exact ih v6 (v7 + 1) (ρ283) h
def RB_M_condition_161  (v1 : Int32) (v2 : Int32) (v3 : Int32) (v4 : Int32) (s1 : Int32) (ρ : RS) : Option (Int32 × RS) := b0 (rpI ρ 0 s1) (fun ρ161 => if (ri ρ161 0) ≤ 0 then b1 (rgI ρ161 23 5 0) (fun x178 => b1 (rgI ρ161 23 5 0) (fun x187 => b1 (rsI ρ161 23 5 0 (x187 + 1)) (fun ρ190 => b1 (rsI ρ190 24 25 x178 v1) (fun ρ198 => b1 (rsI ρ198 25 25 x178 v2) (fun ρ206 => b1 (rsI ρ206 26 25 x178 v3) (fun ρ214 => b1 (rsI ρ214 27 25 x178 v4) (fun ρ223 => b1 (rsI ρ223 28 25 x178 0) (fun ρ231 => if 4 ≤ v1 then RB_M_condition_295 (ρ231) else c2 (R_M_foldTyped  (ρ231)) (fun x238 ρ238 => b1 (rsI ρ238 28 25 x178 (ri ρ238 38)) (fun ρ251 => RB_M_condition_255 fu x178 0 (ρ251))))))))))) else some (0, ρ161))
set_option maxHeartbeats 4000000 in
set_option maxRecDepth 100000 in
theorem rw_M_condition_161 {X : CX} (E : EV X prog_13_method_34_code 8 "PlaceFinderModel" (some .int)) {μ0 μ : Mem} {b : Nat} {r : Int32} {ρ' : RS} (hQ : RQ X 0 0 μ0 (some (vI r)) (ov b ρ' μ)) (hR : xR X = { frames := 3, cells := 0, slots := 0, locals := 67 }) (hI : X.2.2.2.2.2.2.2.2.2.2.2.1.name = "condition") (hW : mW μ ≤ b)  (v1 : Int32) (v2 : Int32) (v3 : Int32) (v4 : Int32) (s1 : Int32) (ρ : RS) (h : RB_M_condition_161  v1 v2 v3 v4 s1 ρ = some (r, ρ')) : WM X 8 161 [(0, vR (some b)), (1, vI v1), (2, vI v2), (3, vI v3), (4, vI v4)] [vI s1, vR (some b)] 0 0 (ov b ρ μ) := by
  have h : (b0 (rpI ρ 0 s1) (fun ρ161 => if (ri ρ161 0) ≤ 0 then b1 (rgI ρ161 23 5 0) (fun x178 => b1 (rgI ρ161 23 5 0) (fun x187 => b1 (rsI ρ161 23 5 0 (x187 + 1)) (fun ρ190 => b1 (rsI ρ190 24 25 x178 v1) (fun ρ198 => b1 (rsI ρ198 25 25 x178 v2) (fun ρ206 => b1 (rsI ρ206 26 25 x178 v3) (fun ρ214 => b1 (rsI ρ214 27 25 x178 v4) (fun ρ223 => b1 (rsI ρ223 28 25 x178 0) (fun ρ231 => if 4 ≤ v1 then RB_M_condition_295 (ρ231) else c2 (R_M_foldTyped  (ρ231)) (fun x238 ρ238 => b1 (rsI ρ238 28 25 x178 (ri ρ238 38)) (fun ρ251 => RB_M_condition_255 fu x178 0 (ρ251))))))))))) else some (0, ρ161))) = some (r, ρ') := h
  refine wm_rpI E fp_M_132 (fun q => by cases q) rfl (by decide) hW dM_condition_161 ?_
  refine wm_rlet h (fun ρ161 h => ?_)
  refine wm_aload_n E dM_condition_164 rfl (j := 0) rfl ?_
  refine wm_rget (v := vI (ri ρ161 0)) E fd_M_132 rfl dM_condition_165 ?_
  refine wm_if_le (tgt := 173) E dM_condition_168 (by decide) (fun c168 => ?_) (fun c168 => ?_)
  · have h := (if_pos c168).symm.trans h
    refine wm_aload_n E dM_condition_173 rfl (j := 0) rfl ?_
    refine wm_rget (v := vR (some (b + 20))) E fd_M_67 rfl dM_condition_174 ?_
    refine wm_iconst (x := 0) E dM_condition_177 (by decide) ?_
    refine wm_riald E (by decide) rfl rfl (by decide) (by decide) h dM_condition_178 (fun x178 h => ?_)
    refine wm_istore (lv' := [(6, vI x178), (0, vR (some b)), (1, vI v1), (2, vI v2), (3, vI v3), (4, vI v4)]) E dM_condition_179 (by decide) rfl ?_
    refine wm_aload_n E dM_condition_181 rfl (j := 1) rfl ?_
    refine wm_rget (v := vR (some (b + 20))) E fd_M_67 rfl dM_condition_182 ?_
    refine wm_iconst (x := 0) E dM_condition_185 (by decide) ?_
    refine wm_dup2_11 E dM_condition_186 rfl rfl ?_
    refine wm_riald E (by decide) rfl rfl (by decide) (by decide) h dM_condition_187 (fun x187 h => ?_)
    refine wm_iconst (x := 1) E dM_condition_188 (by decide) ?_
    refine wm_iadd E dM_condition_189 ?_
    refine wm_riast E (by decide) rfl rfl (by decide) (by decide) hW h dM_condition_190 (fun ρ190 h => ?_)
    refine wm_aload_n E dM_condition_191 rfl (j := 1) rfl ?_
    refine wm_rget (v := vR (some (b + 21))) E fd_M_70 rfl dM_condition_192 ?_
    refine wm_iload E dM_condition_195 (j := 0) rfl ?_
    refine wm_iload_n E dM_condition_197 rfl (j := 2) rfl ?_
    refine wm_riast E (by decide) rfl rfl (by decide) (by decide) hW h dM_condition_198 (fun ρ198 h => ?_)
    refine wm_aload_n E dM_condition_199 rfl (j := 1) rfl ?_
    refine wm_rget (v := vR (some (b + 22))) E fd_M_73 rfl dM_condition_200 ?_
    refine wm_iload E dM_condition_203 (j := 0) rfl ?_
    refine wm_iload_n E dM_condition_205 rfl (j := 3) rfl ?_
    refine wm_riast E (by decide) rfl rfl (by decide) (by decide) hW h dM_condition_206 (fun ρ206 h => ?_)
    refine wm_aload_n E dM_condition_207 rfl (j := 1) rfl ?_
    refine wm_rget (v := vR (some (b + 23))) E fd_M_76 rfl dM_condition_208 ?_
    refine wm_iload E dM_condition_211 (j := 0) rfl ?_
    refine wm_iload_n E dM_condition_213 rfl (j := 4) rfl ?_
    refine wm_riast E (by decide) rfl rfl (by decide) (by decide) hW h dM_condition_214 (fun ρ214 h => ?_)
    refine wm_aload_n E dM_condition_215 rfl (j := 1) rfl ?_
    refine wm_rget (v := vR (some (b + 24))) E fd_M_79 rfl dM_condition_216 ?_
    refine wm_iload E dM_condition_219 (j := 0) rfl ?_
    refine wm_iload E dM_condition_221 (j := 5) rfl ?_
    refine wm_riast E (by decide) rfl rfl (by decide) (by decide) hW h dM_condition_223 (fun ρ223 h => ?_)
    refine wm_aload_n E dM_condition_224 rfl (j := 1) rfl ?_
    refine wm_rget (v := vR (some (b + 25))) E fd_M_82 rfl dM_condition_225 ?_
    refine wm_iload E dM_condition_228 (j := 0) rfl ?_
    refine wm_iconst (x := 0) E dM_condition_230 (by decide) ?_
    refine wm_riast E (by decide) rfl rfl (by decide) (by decide) hW h dM_condition_231 (fun ρ231 h => ?_)
    refine wm_iload_n E dM_condition_232 rfl (j := 2) rfl ?_
    refine wm_iconst (x := 4) E dM_condition_233 (by decide) ?_
    refine wm_icmp_ge (tgt := 295) E dM_condition_234 (by decide) (fun c234 => ?_) (fun c234 => ?_)
    · have h := (if_pos c234).symm.trans h
      refine wm_pick (lv' := [(0, vR (some b))]) [1] rfl ?_
      exact rw_M_condition_295 E hQ hR hI hW (ρ231) h
    · have h := (if_neg c234).symm.trans h
      refine wm_aload_n E dM_condition_237 rfl (j := 1) rfl ?_
      obtain ⟨x238, ρ238, hc238, h⟩ := c2S h
      refine wm_cV (ci := 12) (As := []) (st := []) E lk_M_188 rfl im_M_foldTyped sl_M_foldTyped (ov_rc _ _ _) (RC_M_foldTyped (xl X) X.1 b (ρ231) μ hW  _ _ hc238) rfl rfl (by rw [hR]; decide) (by rw [hR]; decide) (Nat.le_of_ble_eq_true rfl) dM_condition_238 ?_
      refine wm_aload_n E dM_condition_241 rfl (j := 1) rfl ?_
      refine wm_rget (v := vR (some (b + 25))) E fd_M_82 rfl dM_condition_242 ?_
      refine wm_iload E dM_condition_245 (j := 0) rfl ?_
      refine wm_aload_n E dM_condition_247 rfl (j := 1) rfl ?_
      refine wm_rget (v := vI (ri ρ238 38)) E fd_M_179 rfl dM_condition_248 ?_
      refine wm_riast E (by decide) rfl rfl (by decide) (by decide) hW h dM_condition_251 (fun ρ251 h => ?_)
      refine wm_iconst (x := 0) E dM_condition_252 (by decide) ?_
      refine wm_istore (lv' := [(7, vI 0), (6, vI x178), (0, vR (some b)), (1, vI v1), (2, vI v2), (3, vI v3), (4, vI v4)]) E dM_condition_253 (by decide) rfl ?_
      refine wm_pick (lv' := [(0, vR (some b)), (6, vI x178), (7, vI 0)]) [2, 1, 0] rfl ?_
      exact rw_M_condition_255 E hQ hR hI hW fu x178 0 (ρ251) h
  · have h := (if_neg c168).symm.trans h
    refine wm_iconst (x := 0) E dM_condition_171 (by decide) ?_
    exact wm_iret (rt := .int) E hQ (rrI h) (rrM h) (by decide) (by decide) dM_condition_172
def RB_M_condition_136  (v1 : Int32) (v2 : Int32) (v3 : Int32) (v4 : Int32) (v5 : Int32) (ρ : RS) : Option (Int32 × RS) := if v5 = 0 then RB_M_condition_161 v1 v2 v3 v4 1 (ρ) else b1 (rgI ρ 23 5 0) (fun x151 => if x151 = 5 then RB_M_condition_161 v1 v2 v3 v4 2 (ρ) else RB_M_condition_161 v1 v2 v3 v4 0 (ρ))
set_option maxHeartbeats 4000000 in
set_option maxRecDepth 100000 in
theorem rw_M_condition_136 {X : CX} (E : EV X prog_13_method_34_code 8 "PlaceFinderModel" (some .int)) {μ0 μ : Mem} {b : Nat} {r : Int32} {ρ' : RS} (hQ : RQ X 0 0 μ0 (some (vI r)) (ov b ρ' μ)) (hR : xR X = { frames := 3, cells := 0, slots := 0, locals := 67 }) (hI : X.2.2.2.2.2.2.2.2.2.2.2.1.name = "condition") (hW : mW μ ≤ b)  (v1 : Int32) (v2 : Int32) (v3 : Int32) (v4 : Int32) (v5 : Int32) (ρ : RS) (h : RB_M_condition_136  v1 v2 v3 v4 v5 ρ = some (r, ρ')) : WM X 8 136 [(0, vR (some b)), (1, vI v1), (2, vI v2), (3, vI v3), (4, vI v4), (5, vI v5)] [] 0 0 (ov b ρ μ) := by
  have h : (if v5 = 0 then RB_M_condition_161 v1 v2 v3 v4 1 (ρ) else b1 (rgI ρ 23 5 0) (fun x151 => if x151 = 5 then RB_M_condition_161 v1 v2 v3 v4 2 (ρ) else RB_M_condition_161 v1 v2 v3 v4 0 (ρ))) = some (r, ρ') := h
  refine wm_aload_n E dM_condition_136 rfl (j := 0) rfl ?_
  refine wm_iload E dM_condition_137 (j := 5) rfl ?_
  refine wm_if_ne (tgt := 146) E dM_condition_139 (by decide) (fun c139 => ?_) (fun c139 => ?_)
  · have h := (if_neg c139).symm.trans h
    refine wm_aload_n E dM_condition_146 rfl (j := 0) rfl ?_
    refine wm_rget (v := vR (some (b + 20))) E fd_M_67 rfl dM_condition_147 ?_
    refine wm_iconst (x := 0) E dM_condition_150 (by decide) ?_
    refine wm_riald E (by decide) rfl rfl (by decide) (by decide) h dM_condition_151 (fun x151 h => ?_)
    refine wm_iconst (x := 5) E dM_condition_152 (by decide) ?_
    refine wm_icmp_ne (tgt := 160) E dM_condition_153 (by decide) (fun c153 => ?_) (fun c153 => ?_)
    · have h := (if_neg c153).symm.trans h
      refine wm_iconst (x := 0) E dM_condition_160 (by decide) ?_
      refine wm_pick (lv' := [(0, vR (some b)), (1, vI v1), (2, vI v2), (3, vI v3), (4, vI v4)]) [0, 1, 2, 3, 4] rfl ?_
      exact rw_M_condition_161 E hQ hR hI hW v1 v2 v3 v4 0 (ρ) h
    · have h := (if_pos c153).symm.trans h
      refine wm_iconst (x := 2) E dM_condition_156 (by decide) ?_
      refine wm_goto (tgt := 161) E dM_condition_157 (by decide) ?_
      refine wm_pick (lv' := [(0, vR (some b)), (1, vI v1), (2, vI v2), (3, vI v3), (4, vI v4)]) [0, 1, 2, 3, 4] rfl ?_
      exact rw_M_condition_161 E hQ hR hI hW v1 v2 v3 v4 2 (ρ) h
  · have h := (if_pos c139).symm.trans h
    refine wm_iconst (x := 1) E dM_condition_142 (by decide) ?_
    refine wm_goto (tgt := 161) E dM_condition_143 (by decide) ?_
    refine wm_pick (lv' := [(0, vR (some b)), (1, vI v1), (2, vI v2), (3, vI v3), (4, vI v4)]) [0, 1, 2, 3, 4] rfl ?_
    exact rw_M_condition_161 E hQ hR hI hW v1 v2 v3 v4 1 (ρ) h
def RB_M_condition_120  (v1 : Int32) (v2 : Int32) (v3 : Int32) (v4 : Int32) (v5 : Int32) (ρ : RS) : Option (Int32 × RS) := if v1 = 8 then b1 (R_M_in v2 0 10000) (fun x131 => RB_M_condition_136 v1 v2 v3 v4 x131 (ρ)) else RB_M_condition_136 v1 v2 v3 v4 v5 (ρ)
set_option maxHeartbeats 4000000 in
set_option maxRecDepth 100000 in
theorem rw_M_condition_120 {X : CX} (E : EV X prog_13_method_34_code 8 "PlaceFinderModel" (some .int)) {μ0 μ : Mem} {b : Nat} {r : Int32} {ρ' : RS} (hQ : RQ X 0 0 μ0 (some (vI r)) (ov b ρ' μ)) (hR : xR X = { frames := 3, cells := 0, slots := 0, locals := 67 }) (hI : X.2.2.2.2.2.2.2.2.2.2.2.1.name = "condition") (hW : mW μ ≤ b)  (v1 : Int32) (v2 : Int32) (v3 : Int32) (v4 : Int32) (v5 : Int32) (ρ : RS) (h : RB_M_condition_120  v1 v2 v3 v4 v5 ρ = some (r, ρ')) : WM X 8 120 [(0, vR (some b)), (1, vI v1), (2, vI v2), (3, vI v3), (4, vI v4), (5, vI v5)] [] 0 0 (ov b ρ μ) := by
  have h : (if v1 = 8 then b1 (R_M_in v2 0 10000) (fun x131 => RB_M_condition_136 v1 v2 v3 v4 x131 (ρ)) else RB_M_condition_136 v1 v2 v3 v4 v5 (ρ)) = some (r, ρ') := h
  refine wm_iload_n E dM_condition_120 rfl (j := 1) rfl ?_
  refine wm_bipush (x := 8) E dM_condition_121 (by decide) ?_
  refine wm_icmp_ne (tgt := 136) E dM_condition_123 (by decide) (fun c123 => ?_) (fun c123 => ?_)
  · have h := (if_neg c123).symm.trans h
    refine wm_pick (lv' := [(0, vR (some b)), (1, vI v1), (2, vI v2), (3, vI v3), (4, vI v4), (5, vI v5)]) [0, 1, 2, 3, 4, 5] rfl ?_
    exact rw_M_condition_136 E hQ hR hI hW v1 v2 v3 v4 v5 (ρ) h
  · have h := (if_pos c123).symm.trans h
    refine wm_iload_n E dM_condition_126 rfl (j := 2) rfl ?_
    refine wm_iconst (x := 0) E dM_condition_127 (by decide) ?_
    refine wm_sipush (x := 10000) E dM_condition_128 (by decide) ?_
    obtain ⟨x131, hc131, h⟩ := b1S h
    refine wm_cS (As := [vI v2, vI 0, vI 10000]) (st := []) E lk_M_139 sc_M_in (RC_M_in (xl X) X.1 v2 0 10000 _ _ hc131) rfl rfl (by rw [hR]; decide) (by rw [hR]; decide) (Nat.le_of_ble_eq_true rfl) dM_condition_131 ?_
    refine wm_istore (lv' := [(5, vI x131), (0, vR (some b)), (1, vI v1), (2, vI v2), (3, vI v3), (4, vI v4)]) E dM_condition_134 (by decide) rfl ?_
    refine wm_pick (lv' := [(0, vR (some b)), (1, vI v1), (2, vI v2), (3, vI v3), (4, vI v4), (5, vI x131)]) [1, 2, 3, 4, 5, 0] rfl ?_
    exact rw_M_condition_136 E hQ hR hI hW v1 v2 v3 v4 x131 (ρ) h
def RB_M_condition_118  (v1 : Int32) (v2 : Int32) (v3 : Int32) (v4 : Int32) (s0 : Int32) (ρ : RS) : Option (Int32 × RS) := RB_M_condition_120 v1 v2 v3 v4 s0 (ρ)
set_option maxHeartbeats 4000000 in
set_option maxRecDepth 100000 in
theorem rw_M_condition_118 {X : CX} (E : EV X prog_13_method_34_code 8 "PlaceFinderModel" (some .int)) {μ0 μ : Mem} {b : Nat} {r : Int32} {ρ' : RS} (hQ : RQ X 0 0 μ0 (some (vI r)) (ov b ρ' μ)) (hR : xR X = { frames := 3, cells := 0, slots := 0, locals := 67 }) (hI : X.2.2.2.2.2.2.2.2.2.2.2.1.name = "condition") (hW : mW μ ≤ b)  (v1 : Int32) (v2 : Int32) (v3 : Int32) (v4 : Int32) (s0 : Int32) (ρ : RS) (h : RB_M_condition_118  v1 v2 v3 v4 s0 ρ = some (r, ρ')) : WM X 8 118 [(0, vR (some b)), (1, vI v1), (2, vI v2), (3, vI v3), (4, vI v4)] [vI s0] 0 0 (ov b ρ μ) := by
  have h : (RB_M_condition_120 v1 v2 v3 v4 s0 (ρ)) = some (r, ρ') := h
  refine wm_istore (lv' := [(5, vI s0), (0, vR (some b)), (1, vI v1), (2, vI v2), (3, vI v3), (4, vI v4)]) E dM_condition_118 (by decide) rfl ?_
  refine wm_pick (lv' := [(0, vR (some b)), (1, vI v1), (2, vI v2), (3, vI v3), (4, vI v4), (5, vI s0)]) [1, 2, 3, 4, 5, 0] rfl ?_
  exact rw_M_condition_120 E hQ hR hI hW v1 v2 v3 v4 s0 (ρ) h
def RB_M_condition_117  (v1 : Int32) (v2 : Int32) (v3 : Int32) (v4 : Int32) (ρ : RS) : Option (Int32 × RS) := RB_M_condition_118 v1 v2 v3 v4 0 (ρ)
set_option maxHeartbeats 4000000 in
set_option maxRecDepth 100000 in
theorem rw_M_condition_117 {X : CX} (E : EV X prog_13_method_34_code 8 "PlaceFinderModel" (some .int)) {μ0 μ : Mem} {b : Nat} {r : Int32} {ρ' : RS} (hQ : RQ X 0 0 μ0 (some (vI r)) (ov b ρ' μ)) (hR : xR X = { frames := 3, cells := 0, slots := 0, locals := 67 }) (hI : X.2.2.2.2.2.2.2.2.2.2.2.1.name = "condition") (hW : mW μ ≤ b)  (v1 : Int32) (v2 : Int32) (v3 : Int32) (v4 : Int32) (ρ : RS) (h : RB_M_condition_117  v1 v2 v3 v4 ρ = some (r, ρ')) : WM X 8 117 [(0, vR (some b)), (1, vI v1), (2, vI v2), (3, vI v3), (4, vI v4)] [] 0 0 (ov b ρ μ) := by
  have h : (RB_M_condition_118 v1 v2 v3 v4 0 (ρ)) = some (r, ρ') := h
  refine wm_iconst (x := 0) E dM_condition_117 (by decide) ?_
  refine wm_pick (lv' := [(0, vR (some b)), (1, vI v1), (2, vI v2), (3, vI v3), (4, vI v4)]) [0, 1, 2, 3, 4] rfl ?_
  exact rw_M_condition_118 E hQ hR hI hW v1 v2 v3 v4 0 (ρ) h
def RB_M_condition_87  (v1 : Int32) (v2 : Int32) (v3 : Int32) (v4 : Int32) (v5 : Int32) (ρ : RS) : Option (Int32 × RS) := if v1 = 7 then b1 (R_M_isAt v2 v3) (fun x95 => if x95 = 0 then RB_M_condition_117 v1 v2 v3 v4 (ρ) else b1 (R_M_in v4 0 10000) (fun x107 => if x107 = 0 then RB_M_condition_117 v1 v2 v3 v4 (ρ) else RB_M_condition_118 v1 v2 v3 v4 1 (ρ))) else RB_M_condition_120 v1 v2 v3 v4 v5 (ρ)
set_option maxHeartbeats 4000000 in
set_option maxRecDepth 100000 in
theorem rw_M_condition_87 {X : CX} (E : EV X prog_13_method_34_code 8 "PlaceFinderModel" (some .int)) {μ0 μ : Mem} {b : Nat} {r : Int32} {ρ' : RS} (hQ : RQ X 0 0 μ0 (some (vI r)) (ov b ρ' μ)) (hR : xR X = { frames := 3, cells := 0, slots := 0, locals := 67 }) (hI : X.2.2.2.2.2.2.2.2.2.2.2.1.name = "condition") (hW : mW μ ≤ b)  (v1 : Int32) (v2 : Int32) (v3 : Int32) (v4 : Int32) (v5 : Int32) (ρ : RS) (h : RB_M_condition_87  v1 v2 v3 v4 v5 ρ = some (r, ρ')) : WM X 8 87 [(0, vR (some b)), (1, vI v1), (2, vI v2), (3, vI v3), (4, vI v4), (5, vI v5)] [] 0 0 (ov b ρ μ) := by
  have h : (if v1 = 7 then b1 (R_M_isAt v2 v3) (fun x95 => if x95 = 0 then RB_M_condition_117 v1 v2 v3 v4 (ρ) else b1 (R_M_in v4 0 10000) (fun x107 => if x107 = 0 then RB_M_condition_117 v1 v2 v3 v4 (ρ) else RB_M_condition_118 v1 v2 v3 v4 1 (ρ))) else RB_M_condition_120 v1 v2 v3 v4 v5 (ρ)) = some (r, ρ') := h
  refine wm_iload_n E dM_condition_87 rfl (j := 1) rfl ?_
  refine wm_bipush (x := 7) E dM_condition_88 (by decide) ?_
  refine wm_icmp_ne (tgt := 120) E dM_condition_90 (by decide) (fun c90 => ?_) (fun c90 => ?_)
  · have h := (if_neg c90).symm.trans h
    refine wm_pick (lv' := [(0, vR (some b)), (1, vI v1), (2, vI v2), (3, vI v3), (4, vI v4), (5, vI v5)]) [0, 1, 2, 3, 4, 5] rfl ?_
    exact rw_M_condition_120 E hQ hR hI hW v1 v2 v3 v4 v5 (ρ) h
  · have h := (if_pos c90).symm.trans h
    refine wm_iload_n E dM_condition_93 rfl (j := 2) rfl ?_
    refine wm_iload_n E dM_condition_94 rfl (j := 3) rfl ?_
    obtain ⟨x95, hc95, h⟩ := b1S h
    refine wm_cS (As := [vI v2, vI v3]) (st := []) E lk_M_147 sc_M_isAt (RC_M_isAt (xl X) X.1 v2 v3 _ _ hc95) rfl rfl (by rw [hR]; decide) (by rw [hR]; decide) (Nat.le_of_ble_eq_true rfl) dM_condition_95 ?_
    refine wm_if_eq (tgt := 117) E dM_condition_98 (by decide) (fun c98 => ?_) (fun c98 => ?_)
    · have h := (if_pos c98).symm.trans h
      refine wm_pick (lv' := [(0, vR (some b)), (1, vI v1), (2, vI v2), (3, vI v3), (4, vI v4)]) [0, 1, 2, 3, 4] rfl ?_
      exact rw_M_condition_117 E hQ hR hI hW v1 v2 v3 v4 (ρ) h
    · have h := (if_neg c98).symm.trans h
      refine wm_iload E dM_condition_101 (j := 4) rfl ?_
      refine wm_iconst (x := 0) E dM_condition_103 (by decide) ?_
      refine wm_sipush (x := 10000) E dM_condition_104 (by decide) ?_
      obtain ⟨x107, hc107, h⟩ := b1S h
      refine wm_cS (As := [vI v4, vI 0, vI 10000]) (st := []) E lk_M_139 sc_M_in (RC_M_in (xl X) X.1 v4 0 10000 _ _ hc107) rfl rfl (by rw [hR]; decide) (by rw [hR]; decide) (Nat.le_of_ble_eq_true rfl) dM_condition_107 ?_
      refine wm_if_eq (tgt := 117) E dM_condition_110 (by decide) (fun c110 => ?_) (fun c110 => ?_)
      · have h := (if_pos c110).symm.trans h
        refine wm_pick (lv' := [(0, vR (some b)), (1, vI v1), (2, vI v2), (3, vI v3), (4, vI v4)]) [0, 1, 2, 3, 4] rfl ?_
        exact rw_M_condition_117 E hQ hR hI hW v1 v2 v3 v4 (ρ) h
      · have h := (if_neg c110).symm.trans h
        refine wm_iconst (x := 1) E dM_condition_113 (by decide) ?_
        refine wm_goto (tgt := 118) E dM_condition_114 (by decide) ?_
        refine wm_pick (lv' := [(0, vR (some b)), (1, vI v1), (2, vI v2), (3, vI v3), (4, vI v4)]) [0, 1, 2, 3, 4] rfl ?_
        exact rw_M_condition_118 E hQ hR hI hW v1 v2 v3 v4 1 (ρ) h
def RB_M_condition_80  (v1 : Int32) (v2 : Int32) (v3 : Int32) (v4 : Int32) (ρ : RS) : Option (Int32 × RS) := b1 (R_M_isPlace v2 (ρ)) (fun x82 => RB_M_condition_87 v1 v2 v3 v4 x82 (ρ))
set_option maxHeartbeats 4000000 in
set_option maxRecDepth 100000 in
theorem rw_M_condition_80 {X : CX} (E : EV X prog_13_method_34_code 8 "PlaceFinderModel" (some .int)) {μ0 μ : Mem} {b : Nat} {r : Int32} {ρ' : RS} (hQ : RQ X 0 0 μ0 (some (vI r)) (ov b ρ' μ)) (hR : xR X = { frames := 3, cells := 0, slots := 0, locals := 67 }) (hI : X.2.2.2.2.2.2.2.2.2.2.2.1.name = "condition") (hW : mW μ ≤ b)  (v1 : Int32) (v2 : Int32) (v3 : Int32) (v4 : Int32) (ρ : RS) (h : RB_M_condition_80  v1 v2 v3 v4 ρ = some (r, ρ')) : WM X 8 80 [(0, vR (some b)), (1, vI v1), (2, vI v2), (3, vI v3), (4, vI v4)] [] 0 0 (ov b ρ μ) := by
  have h : (b1 (R_M_isPlace v2 (ρ)) (fun x82 => RB_M_condition_87 v1 v2 v3 v4 x82 (ρ))) = some (r, ρ') := h
  refine wm_aload_n E dM_condition_80 rfl (j := 0) rfl ?_
  refine wm_iload_n E dM_condition_81 rfl (j := 2) rfl ?_
  obtain ⟨x82, hc82, h⟩ := b1S h
  refine wm_cV (ci := 12) (As := [vI v2]) (st := []) E lk_M_154 rfl im_M_isPlace sl_M_isPlace (ov_rc _ _ _) (RC_M_isPlace (xl X) X.1 b (ρ) μ v2 _ hc82) rfl rfl (by rw [hR]; decide) (by rw [hR]; decide) (Nat.le_of_ble_eq_true rfl) dM_condition_82 ?_
  refine wm_istore (lv' := [(5, vI x82), (0, vR (some b)), (1, vI v1), (2, vI v2), (3, vI v3), (4, vI v4)]) E dM_condition_85 (by decide) rfl ?_
  refine wm_pick (lv' := [(0, vR (some b)), (1, vI v1), (2, vI v2), (3, vI v3), (4, vI v4), (5, vI x82)]) [1, 2, 3, 4, 5, 0] rfl ?_
  exact rw_M_condition_87 E hQ hR hI hW v1 v2 v3 v4 x82 (ρ) h
def RB_M_condition_69  (v1 : Int32) (v2 : Int32) (v3 : Int32) (v4 : Int32) (v5 : Int32) (ρ : RS) : Option (Int32 × RS) := if v1 = 5 then RB_M_condition_80 v1 v2 v3 v4 (ρ) else if v1 = 6 then RB_M_condition_80 v1 v2 v3 v4 (ρ) else RB_M_condition_87 v1 v2 v3 v4 v5 (ρ)
set_option maxHeartbeats 4000000 in
set_option maxRecDepth 100000 in
theorem rw_M_condition_69 {X : CX} (E : EV X prog_13_method_34_code 8 "PlaceFinderModel" (some .int)) {μ0 μ : Mem} {b : Nat} {r : Int32} {ρ' : RS} (hQ : RQ X 0 0 μ0 (some (vI r)) (ov b ρ' μ)) (hR : xR X = { frames := 3, cells := 0, slots := 0, locals := 67 }) (hI : X.2.2.2.2.2.2.2.2.2.2.2.1.name = "condition") (hW : mW μ ≤ b)  (v1 : Int32) (v2 : Int32) (v3 : Int32) (v4 : Int32) (v5 : Int32) (ρ : RS) (h : RB_M_condition_69  v1 v2 v3 v4 v5 ρ = some (r, ρ')) : WM X 8 69 [(0, vR (some b)), (1, vI v1), (2, vI v2), (3, vI v3), (4, vI v4), (5, vI v5)] [] 0 0 (ov b ρ μ) := by
  have h : (if v1 = 5 then RB_M_condition_80 v1 v2 v3 v4 (ρ) else if v1 = 6 then RB_M_condition_80 v1 v2 v3 v4 (ρ) else RB_M_condition_87 v1 v2 v3 v4 v5 (ρ)) = some (r, ρ') := h
  refine wm_iload_n E dM_condition_69 rfl (j := 1) rfl ?_
  refine wm_iconst (x := 5) E dM_condition_70 (by decide) ?_
  refine wm_icmp_eq (tgt := 80) E dM_condition_71 (by decide) (fun c71 => ?_) (fun c71 => ?_)
  · have h := (if_pos c71).symm.trans h
    refine wm_pick (lv' := [(0, vR (some b)), (1, vI v1), (2, vI v2), (3, vI v3), (4, vI v4)]) [0, 1, 2, 3, 4] rfl ?_
    exact rw_M_condition_80 E hQ hR hI hW v1 v2 v3 v4 (ρ) h
  · have h := (if_neg c71).symm.trans h
    refine wm_iload_n E dM_condition_74 rfl (j := 1) rfl ?_
    refine wm_bipush (x := 6) E dM_condition_75 (by decide) ?_
    refine wm_icmp_ne (tgt := 87) E dM_condition_77 (by decide) (fun c77 => ?_) (fun c77 => ?_)
    · have h := (if_neg c77).symm.trans h
      refine wm_pick (lv' := [(0, vR (some b)), (1, vI v1), (2, vI v2), (3, vI v3), (4, vI v4), (5, vI v5)]) [0, 1, 2, 3, 4, 5] rfl ?_
      exact rw_M_condition_87 E hQ hR hI hW v1 v2 v3 v4 v5 (ρ) h
    · have h := (if_pos c77).symm.trans h
      refine wm_pick (lv' := [(0, vR (some b)), (1, vI v1), (2, vI v2), (3, vI v3), (4, vI v4)]) [0, 1, 2, 3, 4] rfl ?_
      exact rw_M_condition_80 E hQ hR hI hW v1 v2 v3 v4 (ρ) h
def RB_M_condition_55  (v1 : Int32) (v2 : Int32) (v3 : Int32) (v4 : Int32) (v5 : Int32) (ρ : RS) : Option (Int32 × RS) := if v1 = 4 then b1 (R_M_in v2 0 7) (fun x64 => RB_M_condition_69 v1 v2 v3 v4 x64 (ρ)) else RB_M_condition_69 v1 v2 v3 v4 v5 (ρ)
set_option maxHeartbeats 4000000 in
set_option maxRecDepth 100000 in
theorem rw_M_condition_55 {X : CX} (E : EV X prog_13_method_34_code 8 "PlaceFinderModel" (some .int)) {μ0 μ : Mem} {b : Nat} {r : Int32} {ρ' : RS} (hQ : RQ X 0 0 μ0 (some (vI r)) (ov b ρ' μ)) (hR : xR X = { frames := 3, cells := 0, slots := 0, locals := 67 }) (hI : X.2.2.2.2.2.2.2.2.2.2.2.1.name = "condition") (hW : mW μ ≤ b)  (v1 : Int32) (v2 : Int32) (v3 : Int32) (v4 : Int32) (v5 : Int32) (ρ : RS) (h : RB_M_condition_55  v1 v2 v3 v4 v5 ρ = some (r, ρ')) : WM X 8 55 [(0, vR (some b)), (1, vI v1), (2, vI v2), (3, vI v3), (4, vI v4), (5, vI v5)] [] 0 0 (ov b ρ μ) := by
  have h : (if v1 = 4 then b1 (R_M_in v2 0 7) (fun x64 => RB_M_condition_69 v1 v2 v3 v4 x64 (ρ)) else RB_M_condition_69 v1 v2 v3 v4 v5 (ρ)) = some (r, ρ') := h
  refine wm_iload_n E dM_condition_55 rfl (j := 1) rfl ?_
  refine wm_iconst (x := 4) E dM_condition_56 (by decide) ?_
  refine wm_icmp_ne (tgt := 69) E dM_condition_57 (by decide) (fun c57 => ?_) (fun c57 => ?_)
  · have h := (if_neg c57).symm.trans h
    refine wm_pick (lv' := [(0, vR (some b)), (1, vI v1), (2, vI v2), (3, vI v3), (4, vI v4), (5, vI v5)]) [0, 1, 2, 3, 4, 5] rfl ?_
    exact rw_M_condition_69 E hQ hR hI hW v1 v2 v3 v4 v5 (ρ) h
  · have h := (if_pos c57).symm.trans h
    refine wm_iload_n E dM_condition_60 rfl (j := 2) rfl ?_
    refine wm_iconst (x := 0) E dM_condition_61 (by decide) ?_
    refine wm_bipush (x := 7) E dM_condition_62 (by decide) ?_
    obtain ⟨x64, hc64, h⟩ := b1S h
    refine wm_cS (As := [vI v2, vI 0, vI 7]) (st := []) E lk_M_139 sc_M_in (RC_M_in (xl X) X.1 v2 0 7 _ _ hc64) rfl rfl (by rw [hR]; decide) (by rw [hR]; decide) (Nat.le_of_ble_eq_true rfl) dM_condition_64 ?_
    refine wm_istore (lv' := [(5, vI x64), (0, vR (some b)), (1, vI v1), (2, vI v2), (3, vI v3), (4, vI v4)]) E dM_condition_67 (by decide) rfl ?_
    refine wm_pick (lv' := [(0, vR (some b)), (1, vI v1), (2, vI v2), (3, vI v3), (4, vI v4), (5, vI x64)]) [1, 2, 3, 4, 5, 0] rfl ?_
    exact rw_M_condition_69 E hQ hR hI hW v1 v2 v3 v4 x64 (ρ) h
def RB_M_condition_53  (v1 : Int32) (v2 : Int32) (v3 : Int32) (v4 : Int32) (s0 : Int32) (ρ : RS) : Option (Int32 × RS) := RB_M_condition_55 v1 v2 v3 v4 s0 (ρ)
set_option maxHeartbeats 4000000 in
set_option maxRecDepth 100000 in
theorem rw_M_condition_53 {X : CX} (E : EV X prog_13_method_34_code 8 "PlaceFinderModel" (some .int)) {μ0 μ : Mem} {b : Nat} {r : Int32} {ρ' : RS} (hQ : RQ X 0 0 μ0 (some (vI r)) (ov b ρ' μ)) (hR : xR X = { frames := 3, cells := 0, slots := 0, locals := 67 }) (hI : X.2.2.2.2.2.2.2.2.2.2.2.1.name = "condition") (hW : mW μ ≤ b)  (v1 : Int32) (v2 : Int32) (v3 : Int32) (v4 : Int32) (s0 : Int32) (ρ : RS) (h : RB_M_condition_53  v1 v2 v3 v4 s0 ρ = some (r, ρ')) : WM X 8 53 [(0, vR (some b)), (1, vI v1), (2, vI v2), (3, vI v3), (4, vI v4)] [vI s0] 0 0 (ov b ρ μ) := by
  have h : (RB_M_condition_55 v1 v2 v3 v4 s0 (ρ)) = some (r, ρ') := h
  refine wm_istore (lv' := [(5, vI s0), (0, vR (some b)), (1, vI v1), (2, vI v2), (3, vI v3), (4, vI v4)]) E dM_condition_53 (by decide) rfl ?_
  refine wm_pick (lv' := [(0, vR (some b)), (1, vI v1), (2, vI v2), (3, vI v3), (4, vI v4), (5, vI s0)]) [1, 2, 3, 4, 5, 0] rfl ?_
  exact rw_M_condition_55 E hQ hR hI hW v1 v2 v3 v4 s0 (ρ) h
def RB_M_condition_52  (v1 : Int32) (v2 : Int32) (v3 : Int32) (v4 : Int32) (ρ : RS) : Option (Int32 × RS) := RB_M_condition_53 v1 v2 v3 v4 0 (ρ)
set_option maxHeartbeats 4000000 in
set_option maxRecDepth 100000 in
theorem rw_M_condition_52 {X : CX} (E : EV X prog_13_method_34_code 8 "PlaceFinderModel" (some .int)) {μ0 μ : Mem} {b : Nat} {r : Int32} {ρ' : RS} (hQ : RQ X 0 0 μ0 (some (vI r)) (ov b ρ' μ)) (hR : xR X = { frames := 3, cells := 0, slots := 0, locals := 67 }) (hI : X.2.2.2.2.2.2.2.2.2.2.2.1.name = "condition") (hW : mW μ ≤ b)  (v1 : Int32) (v2 : Int32) (v3 : Int32) (v4 : Int32) (ρ : RS) (h : RB_M_condition_52  v1 v2 v3 v4 ρ = some (r, ρ')) : WM X 8 52 [(0, vR (some b)), (1, vI v1), (2, vI v2), (3, vI v3), (4, vI v4)] [] 0 0 (ov b ρ μ) := by
  have h : (RB_M_condition_53 v1 v2 v3 v4 0 (ρ)) = some (r, ρ') := h
  refine wm_iconst (x := 0) E dM_condition_52 (by decide) ?_
  refine wm_pick (lv' := [(0, vR (some b)), (1, vI v1), (2, vI v2), (3, vI v3), (4, vI v4)]) [0, 1, 2, 3, 4] rfl ?_
  exact rw_M_condition_53 E hQ hR hI hW v1 v2 v3 v4 0 (ρ) h
def RB_M_condition_27  (v1 : Int32) (v2 : Int32) (v3 : Int32) (v4 : Int32) (s0 : Int32) (ρ : RS) : Option (Int32 × RS) := if v1 = 2 then if s0 = 0 then RB_M_condition_52 v1 v2 v3 v4 (ρ) else b1 (R_M_in v2 0 2) (fun x42 => if x42 = 0 then RB_M_condition_52 v1 v2 v3 v4 (ρ) else RB_M_condition_53 v1 v2 v3 v4 1 (ρ)) else RB_M_condition_55 v1 v2 v3 v4 s0 (ρ)
set_option maxHeartbeats 4000000 in
set_option maxRecDepth 100000 in
theorem rw_M_condition_27 {X : CX} (E : EV X prog_13_method_34_code 8 "PlaceFinderModel" (some .int)) {μ0 μ : Mem} {b : Nat} {r : Int32} {ρ' : RS} (hQ : RQ X 0 0 μ0 (some (vI r)) (ov b ρ' μ)) (hR : xR X = { frames := 3, cells := 0, slots := 0, locals := 67 }) (hI : X.2.2.2.2.2.2.2.2.2.2.2.1.name = "condition") (hW : mW μ ≤ b)  (v1 : Int32) (v2 : Int32) (v3 : Int32) (v4 : Int32) (s0 : Int32) (ρ : RS) (h : RB_M_condition_27  v1 v2 v3 v4 s0 ρ = some (r, ρ')) : WM X 8 27 [(0, vR (some b)), (1, vI v1), (2, vI v2), (3, vI v3), (4, vI v4)] [vI s0] 0 0 (ov b ρ μ) := by
  have h : (if v1 = 2 then if s0 = 0 then RB_M_condition_52 v1 v2 v3 v4 (ρ) else b1 (R_M_in v2 0 2) (fun x42 => if x42 = 0 then RB_M_condition_52 v1 v2 v3 v4 (ρ) else RB_M_condition_53 v1 v2 v3 v4 1 (ρ)) else RB_M_condition_55 v1 v2 v3 v4 s0 (ρ)) = some (r, ρ') := h
  refine wm_istore (lv' := [(5, vI s0), (0, vR (some b)), (1, vI v1), (2, vI v2), (3, vI v3), (4, vI v4)]) E dM_condition_27 (by decide) rfl ?_
  refine wm_iload_n E dM_condition_29 rfl (j := 2) rfl ?_
  refine wm_iconst (x := 2) E dM_condition_30 (by decide) ?_
  refine wm_icmp_ne (tgt := 55) E dM_condition_31 (by decide) (fun c31 => ?_) (fun c31 => ?_)
  · have h := (if_neg c31).symm.trans h
    refine wm_pick (lv' := [(0, vR (some b)), (1, vI v1), (2, vI v2), (3, vI v3), (4, vI v4), (5, vI s0)]) [1, 2, 3, 4, 5, 0] rfl ?_
    exact rw_M_condition_55 E hQ hR hI hW v1 v2 v3 v4 s0 (ρ) h
  · have h := (if_pos c31).symm.trans h
    refine wm_iload E dM_condition_34 (j := 0) rfl ?_
    refine wm_if_eq (tgt := 52) E dM_condition_36 (by decide) (fun c36 => ?_) (fun c36 => ?_)
    · have h := (if_pos c36).symm.trans h
      refine wm_pick (lv' := [(0, vR (some b)), (1, vI v1), (2, vI v2), (3, vI v3), (4, vI v4)]) [1, 2, 3, 4, 5] rfl ?_
      exact rw_M_condition_52 E hQ hR hI hW v1 v2 v3 v4 (ρ) h
    · have h := (if_neg c36).symm.trans h
      refine wm_iload_n E dM_condition_39 rfl (j := 3) rfl ?_
      refine wm_iconst (x := 0) E dM_condition_40 (by decide) ?_
      refine wm_iconst (x := 2) E dM_condition_41 (by decide) ?_
      obtain ⟨x42, hc42, h⟩ := b1S h
      refine wm_cS (As := [vI v2, vI 0, vI 2]) (st := []) E lk_M_139 sc_M_in (RC_M_in (xl X) X.1 v2 0 2 _ _ hc42) rfl rfl (by rw [hR]; decide) (by rw [hR]; decide) (Nat.le_of_ble_eq_true rfl) dM_condition_42 ?_
      refine wm_if_eq (tgt := 52) E dM_condition_45 (by decide) (fun c45 => ?_) (fun c45 => ?_)
      · have h := (if_pos c45).symm.trans h
        refine wm_pick (lv' := [(0, vR (some b)), (1, vI v1), (2, vI v2), (3, vI v3), (4, vI v4)]) [1, 2, 3, 4, 5] rfl ?_
        exact rw_M_condition_52 E hQ hR hI hW v1 v2 v3 v4 (ρ) h
      · have h := (if_neg c45).symm.trans h
        refine wm_iconst (x := 1) E dM_condition_48 (by decide) ?_
        refine wm_goto (tgt := 53) E dM_condition_49 (by decide) ?_
        refine wm_pick (lv' := [(0, vR (some b)), (1, vI v1), (2, vI v2), (3, vI v3), (4, vI v4)]) [1, 2, 3, 4, 5] rfl ?_
        exact rw_M_condition_53 E hQ hR hI hW v1 v2 v3 v4 1 (ρ) h
def RB_M_condition_26  (v1 : Int32) (v2 : Int32) (v3 : Int32) (v4 : Int32) (ρ : RS) : Option (Int32 × RS) := RB_M_condition_27 v1 v2 v3 v4 0 (ρ)
set_option maxHeartbeats 4000000 in
set_option maxRecDepth 100000 in
theorem rw_M_condition_26 {X : CX} (E : EV X prog_13_method_34_code 8 "PlaceFinderModel" (some .int)) {μ0 μ : Mem} {b : Nat} {r : Int32} {ρ' : RS} (hQ : RQ X 0 0 μ0 (some (vI r)) (ov b ρ' μ)) (hR : xR X = { frames := 3, cells := 0, slots := 0, locals := 67 }) (hI : X.2.2.2.2.2.2.2.2.2.2.2.1.name = "condition") (hW : mW μ ≤ b)  (v1 : Int32) (v2 : Int32) (v3 : Int32) (v4 : Int32) (ρ : RS) (h : RB_M_condition_26  v1 v2 v3 v4 ρ = some (r, ρ')) : WM X 8 26 [(0, vR (some b)), (1, vI v1), (2, vI v2), (3, vI v3), (4, vI v4)] [] 0 0 (ov b ρ μ) := by
  have h : (RB_M_condition_27 v1 v2 v3 v4 0 (ρ)) = some (r, ρ') := h
  refine wm_iconst (x := 0) E dM_condition_26 (by decide) ?_
  refine wm_pick (lv' := [(0, vR (some b)), (1, vI v1), (2, vI v2), (3, vI v3), (4, vI v4)]) [0, 1, 2, 3, 4] rfl ?_
  exact rw_M_condition_27 E hQ hR hI hW v1 v2 v3 v4 0 (ρ) h
def RB_M_condition_22  (v1 : Int32) (v2 : Int32) (v3 : Int32) (v4 : Int32) (ρ : RS) : Option (Int32 × RS) := RB_M_condition_27 v1 v2 v3 v4 1 (ρ)
set_option maxHeartbeats 4000000 in
set_option maxRecDepth 100000 in
theorem rw_M_condition_22 {X : CX} (E : EV X prog_13_method_34_code 8 "PlaceFinderModel" (some .int)) {μ0 μ : Mem} {b : Nat} {r : Int32} {ρ' : RS} (hQ : RQ X 0 0 μ0 (some (vI r)) (ov b ρ' μ)) (hR : xR X = { frames := 3, cells := 0, slots := 0, locals := 67 }) (hI : X.2.2.2.2.2.2.2.2.2.2.2.1.name = "condition") (hW : mW μ ≤ b)  (v1 : Int32) (v2 : Int32) (v3 : Int32) (v4 : Int32) (ρ : RS) (h : RB_M_condition_22  v1 v2 v3 v4 ρ = some (r, ρ')) : WM X 8 22 [(0, vR (some b)), (1, vI v1), (2, vI v2), (3, vI v3), (4, vI v4)] [] 0 0 (ov b ρ μ) := by
  have h : (RB_M_condition_27 v1 v2 v3 v4 1 (ρ)) = some (r, ρ') := h
  refine wm_iconst (x := 1) E dM_condition_22 (by decide) ?_
  refine wm_goto (tgt := 27) E dM_condition_23 (by decide) ?_
  refine wm_pick (lv' := [(0, vR (some b)), (1, vI v1), (2, vI v2), (3, vI v3), (4, vI v4)]) [0, 1, 2, 3, 4] rfl ?_
  exact rw_M_condition_27 E hQ hR hI hW v1 v2 v3 v4 1 (ρ) h
def R_M_condition (v1 : Int32) (v2 : Int32) (v3 : Int32) (v4 : Int32) (ρ : RS) : Option (Int32 × RS) := b1 (R_M_in v1 0 8) (fun x4 => if x4 = 0 then RB_M_condition_26 v1 v2 v3 v4 (ρ) else if 3 < v1 then RB_M_condition_22 v1 v2 v3 v4 (ρ) else if (ri ρ 21) ≤ 0 then RB_M_condition_26 v1 v2 v3 v4 (ρ) else RB_M_condition_22 v1 v2 v3 v4 (ρ))
set_option maxHeartbeats 4000000 in
set_option maxRecDepth 100000 in
theorem RC_M_condition (l : Launch) (G : GG) (b : Nat) (ρ : RS) (μ : Mem) (hW : mW μ ≤ b) (v1 : Int32) (v2 : Int32) (v3 : Int32) (v4 : Int32) (r : Int32) (ρ' : RS) (h : R_M_condition v1 v2 v3 v4 ρ = some (r, ρ')) : CT l G y_M_condition prog_13_method_34_code 8 (some .int) 3 0 0 67 (ov b ρ μ) [vR (some b), vI v1, vI v2, vI v3, vI v4] (some (vI r)) (ov b ρ' μ) := by
  refine wm_met (lv := [(0, vR (some b)), (1, vI v1), (2, vI v2), (3, vI v3), (4, vI v4)]) (by decide +kernel) (Nat.le_of_ble_eq_true rfl) rfl (fun X E hQ hR hI => ?_)
  have h : (b1 (R_M_in v1 0 8) (fun x4 => if x4 = 0 then RB_M_condition_26 v1 v2 v3 v4 (ρ) else if 3 < v1 then RB_M_condition_22 v1 v2 v3 v4 (ρ) else if (ri ρ 21) ≤ 0 then RB_M_condition_26 v1 v2 v3 v4 (ρ) else RB_M_condition_22 v1 v2 v3 v4 (ρ))) = some (r, ρ') := h
  refine wm_iload_n E dM_condition_0 rfl (j := 1) rfl ?_
  refine wm_iconst (x := 0) E dM_condition_1 (by decide) ?_
  refine wm_bipush (x := 8) E dM_condition_2 (by decide) ?_
  obtain ⟨x4, hc4, h⟩ := b1S h
  refine wm_cS (As := [vI v1, vI 0, vI 8]) (st := []) E lk_M_139 sc_M_in (RC_M_in (xl X) X.1 v1 0 8 _ _ hc4) rfl rfl (by rw [hR]; decide) (by rw [hR]; decide) (Nat.le_of_ble_eq_true rfl) dM_condition_4 ?_
  refine wm_if_eq (tgt := 26) E dM_condition_7 (by decide) (fun c7 => ?_) (fun c7 => ?_)
  · have h := (if_pos c7).symm.trans h
    refine wm_pick (lv' := [(0, vR (some b)), (1, vI v1), (2, vI v2), (3, vI v3), (4, vI v4)]) [0, 1, 2, 3, 4] rfl ?_
    exact rw_M_condition_26 E hQ hR hI hW v1 v2 v3 v4 (ρ) h
  · have h := (if_neg c7).symm.trans h
    refine wm_iload_n E dM_condition_10 rfl (j := 1) rfl ?_
    refine wm_iconst (x := 3) E dM_condition_11 (by decide) ?_
    refine wm_icmp_gt (tgt := 22) E dM_condition_12 (by decide) (fun c12 => ?_) (fun c12 => ?_)
    · have h := (if_pos c12).symm.trans h
      refine wm_pick (lv' := [(0, vR (some b)), (1, vI v1), (2, vI v2), (3, vI v3), (4, vI v4)]) [0, 1, 2, 3, 4] rfl ?_
      exact rw_M_condition_22 E hQ hR hI hW v1 v2 v3 v4 (ρ) h
    · have h := (if_neg c12).symm.trans h
      refine wm_aload_n E dM_condition_15 rfl (j := 0) rfl ?_
      refine wm_rget (v := vI (ri ρ 21)) E fd_M_172 rfl dM_condition_16 ?_
      refine wm_if_le (tgt := 26) E dM_condition_19 (by decide) (fun c19 => ?_) (fun c19 => ?_)
      · have h := (if_pos c19).symm.trans h
        refine wm_pick (lv' := [(0, vR (some b)), (1, vI v1), (2, vI v2), (3, vI v3), (4, vI v4)]) [0, 1, 2, 3, 4] rfl ?_
        exact rw_M_condition_26 E hQ hR hI hW v1 v2 v3 v4 (ρ) h
      · have h := (if_neg c19).symm.trans h
        refine wm_pick (lv' := [(0, vR (some b)), (1, vI v1), (2, vI v2), (3, vI v3), (4, vI v4)]) [0, 1, 2, 3, 4] rfl ?_
        exact rw_M_condition_22 E hQ hR hI hW v1 v2 v3 v4 (ρ) h
