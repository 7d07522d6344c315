def R_M_clear  (ρ : RS) : Option (Unit × RS) := b0 (rpI ρ 0 0) (fun ρ2 => b1 (rsI ρ2 23 5 0 0) (fun ρ11 => some ((), ρ11)))
set_option maxHeartbeats 4000000 in
set_option maxRecDepth 100000 in
theorem RC_M_clear (l : Launch) (G : GG) (b : Nat) (ρ : RS) (μ : Mem) (hW : mW μ ≤ b)  (r : Unit) (ρ' : RS) (h : R_M_clear  ρ = some (r, ρ')) : CT l G y_M_clear prog_13_method_35_code 1 none 0 0 0 0 (ov b ρ μ) [vR (some b)] none (ov b ρ' μ) := by
  refine wm_met (lv := [(0, vR (some b))]) (by decide +kernel) (Nat.le_of_ble_eq_true rfl) rfl (fun X E hQ hR hI => ?_)
  have h : (b0 (rpI ρ 0 0) (fun ρ2 => b1 (rsI ρ2 23 5 0 0) (fun ρ11 => some ((), ρ11)))) = some (r, ρ') := h
  refine wm_aload_n E dM_clear_0 rfl (j := 0) rfl ?_
  refine wm_iconst (x := 0) E dM_clear_1 (by decide) ?_
  refine wm_rpI E fp_M_132 (fun q => by cases q) rfl (by decide) hW dM_clear_2 ?_
  refine wm_rlet h (fun ρ2 h => ?_)
  refine wm_aload_n E dM_clear_5 rfl (j := 0) rfl ?_
  refine wm_rget (v := vR (some (b + 20))) E fd_M_67 rfl dM_clear_6 ?_
  refine wm_iconst (x := 0) E dM_clear_9 (by decide) ?_
  refine wm_iconst (x := 0) E dM_clear_10 (by decide) ?_
  refine wm_riast E (by decide) rfl rfl (by decide) (by decide) hW h dM_clear_11 (fun ρ11 h => ?_)
  exact wm_vret E hQ rfl (rrM h) (by decide) (by decide) dM_clear_12
def RB_M_isNamed_208  (v5 : Int32) (ρ : RS) : Option (Int32 × RS) := gd (¬ okZ v5 = true) (some (v5, ρ))
set_option maxHeartbeats 4000000 in
set_option maxRecDepth 100000 in
theorem rw_M_isNamed_208 {X : CX} (E : EV X prog_13_method_36_code 7 "PlaceFinderModel" (some .boolean)) {μ0 μ : Mem} {b : Nat} {r : Int32} {ρ' : RS} (hQ : RQ X 0 0 μ0 (some (vI r)) (ov b ρ' μ)) (hR : xR X = { frames := 2, cells := 0, slots := 0, locals := 44 }) (hI : X.2.2.2.2.2.2.2.2.2.2.2.1.name = "isNamed") (hW : mW μ ≤ b)  (v5 : Int32) (ρ : RS) (h : RB_M_isNamed_208  v5 ρ = some (r, ρ')) : WM X 7 208 [(5, vI v5)] [] 0 0 (ov b ρ μ) := by
  have h : (gd (¬ okZ v5 = true) (some (v5, ρ))) = some (r, ρ') := h
  refine wm_iload E dM_isNamed_208 (j := 0) rfl ?_
  obtain ⟨hz210, h⟩ := gdS h
  exact wm_zret (rt := .boolean) E hQ (rrI h) (rrM h) (okZN hz210) (by decide) (by decide) dM_isNamed_210
def RB_M_isNamed_200 (k161 : Int32 → Int32 → Int32 → Int32 → RS → Option (Int32 × RS)) (v2 : Int32) (v4 : Int32) (v6 : Int32) (s0 : Int32) (ρ : RS) : Option (Int32 × RS) := k161 v2 v4 s0 (v6 + 1) (ρ)
set_option maxHeartbeats 4000000 in
set_option maxRecDepth 100000 in
theorem rw_M_isNamed_200 {X : CX} (E : EV X prog_13_method_36_code 7 "PlaceFinderModel" (some .boolean)) {μ0 μ : Mem} {b : Nat} {r : Int32} {ρ' : RS} (hQ : RQ X 0 0 μ0 (some (vI r)) (ov b ρ' μ)) (hR : xR X = { frames := 2, cells := 0, slots := 0, locals := 44 }) (hI : X.2.2.2.2.2.2.2.2.2.2.2.1.name = "isNamed") (hW : mW μ ≤ b) (k161 : Int32 → Int32 → Int32 → Int32 → RS → Option (Int32 × RS)) (hk161 : ∀ (v2 : Int32) (v4 : Int32) (v5 : Int32) (v6 : Int32) (ρ : RS), k161 v2 v4 v5 v6 ρ = some (r, ρ') → WM X 7 161 [(0, vR (some b)), (2, vI v2), (4, vI v4), (5, vI v5), (6, vI v6)] [] 0 0 (ov b ρ μ)) (v2 : Int32) (v4 : Int32) (v6 : Int32) (s0 : Int32) (ρ : RS) (h : RB_M_isNamed_200 k161 v2 v4 v6 s0 ρ = some (r, ρ')) : WM X 7 200 [(0, vR (some b)), (2, vI v2), (4, vI v4), (6, vI v6)] [vI s0] 0 0 (ov b ρ μ) := by
  have h : (k161 v2 v4 s0 (v6 + 1) (ρ)) = some (r, ρ') := h
  refine wm_istore (lv' := [(5, vI s0), (0, vR (some b)), (2, vI v2), (4, vI v4), (6, vI v6)]) E dM_isNamed_200 (by decide) rfl ?_
  refine wm_iinc (lv' := [(6, vI (v6 + 1)), (5, vI s0), (0, vR (some b)), (2, vI v2), (4, vI v4)]) (d := 1) E dM_isNamed_202 (by decide) (j := 4) rfl (by decide) rfl ?_
  refine wm_goto (tgt := 161) E dM_isNamed_205 (by decide) ?_
  refine wm_pick (lv' := [(0, vR (some b)), (2, vI v2), (4, vI v4), (5, vI s0), (6, vI (v6 + 1))]) [2, 3, 4, 1, 0] rfl ?_
  exact hk161 v2 v4 s0 (v6 + 1) (ρ) h
def RB_M_isNamed_161  : Nat → Int32 → Int32 → Int32 → Int32 → RS → Option (Int32 × RS)
  | 0, _, _, _, _, _ => none
  | n + 1, v2, v4, v5, v6, ρ => if v4 ≤ v6 then RB_M_isNamed_208 v5 (ρ) else if v5 = 0 then RB_M_isNamed_208 v5 (ρ) else b1 (rgI ρ 39 10 v6) (fun x179 => b1 (rgI ρ 29 250 ((10 * v2) + v6)) (fun x191 => if x179 = x191 then RB_M_isNamed_200 (fun v2 v4 v5 v6 ρ => RB_M_isNamed_161 n v2 v4 v5 v6 ρ) v2 v4 v6 1 (ρ) else RB_M_isNamed_200 (fun v2 v4 v5 v6 ρ => RB_M_isNamed_161 n v2 v4 v5 v6 ρ) v2 v4 v6 0 (ρ)))
set_option maxHeartbeats 4000000 in
set_option maxRecDepth 100000 in
theorem rw_M_isNamed_161 {X : CX} (E : EV X prog_13_method_36_code 7 "PlaceFinderModel" (some .boolean)) {μ0 μ : Mem} {b : Nat} {r : Int32} {ρ' : RS} (hQ : RQ X 0 0 μ0 (some (vI r)) (ov b ρ' μ)) (hR : xR X = { frames := 2, cells := 0, slots := 0, locals := 44 }) (hI : X.2.2.2.2.2.2.2.2.2.2.2.1.name = "isNamed") (hW : mW μ ≤ b)  (n : Nat) : ∀ (v2 : Int32) (v4 : Int32) (v5 : Int32) (v6 : Int32) (ρ : RS) (h : RB_M_isNamed_161  n v2 v4 v5 v6 ρ = some (r, ρ')), WM X 7 161 [(0, vR (some b)), (2, vI v2), (4, vI v4), (5, vI v5), (6, vI v6)] [] 0 0 (ov b ρ μ) := by
  induction n with
  | zero => intro v2 v4 v5 v6 ρ h; cases h
  | succ n ih =>
    intro v2 v4 v5 v6 ρ h
    have h : (if v4 ≤ v6 then RB_M_isNamed_208 v5 (ρ) else if v5 = 0 then RB_M_isNamed_208 v5 (ρ) else b1 (rgI ρ 39 10 v6) (fun x179 => b1 (rgI ρ 29 250 ((10 * v2) + v6)) (fun x191 => if x179 = x191 then RB_M_isNamed_200 (fun v2 v4 v5 v6 ρ => RB_M_isNamed_161 n v2 v4 v5 v6 ρ) v2 v4 v6 1 (ρ) else RB_M_isNamed_200 (fun v2 v4 v5 v6 ρ => RB_M_isNamed_161 n v2 v4 v5 v6 ρ) v2 v4 v6 0 (ρ)))) = some (r, ρ') := h
    refine wm_iload E dM_isNamed_161 (j := 4) rfl ?_
    refine wm_iload E dM_isNamed_163 (j := 2) rfl ?_
    refine wm_icmp_ge (tgt := 208) E dM_isNamed_165 (by decide) (fun c165 => ?_) (fun c165 => ?_)
    · have h := (if_pos c165).symm.trans h
      refine wm_pick (lv' := [(5, vI v5)]) [3] rfl ?_
      exact rw_M_isNamed_208 E hQ hR hI hW v5 (ρ) h
    · have h := (if_neg c165).symm.trans h
      refine wm_iload E dM_isNamed_168 (j := 3) rfl ?_
      refine wm_if_eq (tgt := 208) E dM_isNamed_170 (by decide) (fun c170 => ?_) (fun c170 => ?_)
      · have h := (if_pos c170).symm.trans h
        refine wm_pick (lv' := [(5, vI v5)]) [3] rfl ?_
        exact rw_M_isNamed_208 E hQ hR hI hW v5 (ρ) h
      · have h := (if_neg c170).symm.trans h
        refine wm_aload_n E dM_isNamed_173 rfl (j := 0) rfl ?_
        refine wm_rget (v := vR (some (b + 34))) E fd_M_110 rfl dM_isNamed_174 ?_
        refine wm_iload E dM_isNamed_177 (j := 4) rfl ?_
        refine wm_riald E (by decide) rfl rfl (by decide) (by decide) h dM_isNamed_179 (fun x179 h => ?_)
        refine wm_aload_n E dM_isNamed_180 rfl (j := 0) rfl ?_
        refine wm_rget (v := vR (some (b + 26))) E fd_M_85 rfl dM_isNamed_181 ?_
        refine wm_bipush (x := 10) E dM_isNamed_184 (by decide) ?_
        refine wm_iload_n E dM_isNamed_186 rfl (j := 1) rfl ?_
        refine wm_imul E dM_isNamed_187 ?_
        refine wm_iload E dM_isNamed_188 (j := 4) rfl ?_
        refine wm_iadd E dM_isNamed_190 ?_
        refine wm_riald E (by decide) rfl rfl (by decide) (by decide) h dM_isNamed_191 (fun x191 h => ?_)
        refine wm_icmp_ne (tgt := 199) E dM_isNamed_192 (by decide) (fun c192 => ?_) (fun c192 => ?_)
        · have h := (if_neg c192).symm.trans h
          refine wm_iconst (x := 0) E dM_isNamed_199 (by decide) ?_
          refine wm_pick (lv' := [(0, vR (some b)), (2, vI v2), (4, vI v4), (6, vI v6)]) [0, 1, 2, 4] rfl ?_
          exact rw_M_isNamed_200 E hQ hR hI hW (fun v2 v4 v5 v6 ρ => RB_M_isNamed_161 n v2 v4 v5 v6 ρ) ih v2 v4 v6 0 (ρ) h
        · have h := (if_pos c192).symm.trans h
          refine wm_iconst (x := 1) E dM_isNamed_195 (by decide) ?_
          refine wm_goto (tgt := 200) E dM_isNamed_196 (by decide) ?_
          refine wm_pick (lv' := [(0, vR (some b)), (2, vI v2), (4, vI v4), (6, vI v6)]) [0, 1, 2, 4] rfl ?_
          exact rw_M_isNamed_200 E hQ hR hI hW (fun v2 v4 v5 v6 ρ => RB_M_isNamed_161 n v2 v4 v5 v6 ρ) ih v2 v4 v6 1 (ρ) h
def RB_M_isNamed_156  (v2 : Int32) (v4 : Int32) (s0 : Int32) (ρ : RS) : Option (Int32 × RS) := RB_M_isNamed_161 fu v2 v4 s0 0 (ρ)
set_option maxHeartbeats 4000000 in
set_option maxRecDepth 100000 in
theorem rw_M_isNamed_156 {X : CX} (E : EV X prog_13_method_36_code 7 "PlaceFinderModel" (some .boolean)) {μ0 μ : Mem} {b : Nat} {r : Int32} {ρ' : RS} (hQ : RQ X 0 0 μ0 (some (vI r)) (ov b ρ' μ)) (hR : xR X = { frames := 2, cells := 0, slots := 0, locals := 44 }) (hI : X.2.2.2.2.2.2.2.2.2.2.2.1.name = "isNamed") (hW : mW μ ≤ b)  (v2 : Int32) (v4 : Int32) (s0 : Int32) (ρ : RS) (h : RB_M_isNamed_156  v2 v4 s0 ρ = some (r, ρ')) : WM X 7 156 [(0, vR (some b)), (2, vI v2), (4, vI v4)] [vI s0] 0 0 (ov b ρ μ) := by
  have h : (RB_M_isNamed_161 fu v2 v4 s0 0 (ρ)) = some (r, ρ') := h
  refine wm_istore (lv' := [(5, vI s0), (0, vR (some b)), (2, vI v2), (4, vI v4)]) E dM_isNamed_156 (by decide) rfl ?_
  refine wm_iconst (x := 0) E dM_isNamed_158 (by decide) ?_
  refine wm_istore (lv' := [(6, vI 0), (5, vI s0), (0, vR (some b)), (2, vI v2), (4, vI v4)]) E dM_isNamed_159 (by decide) rfl ?_
  refine wm_pick (lv' := [(0, vR (some b)), (2, vI v2), (4, vI v4), (5, vI s0), (6, vI 0)]) [2, 3, 4, 1, 0] rfl ?_
  exact rw_M_isNamed_161 E hQ hR hI hW fu v2 v4 s0 0 (ρ) h
def RB_M_isNamed_120  (s0 : Int32) (ρ : RS) : Option (Int32 × RS) := gd (¬ okZ s0 = true) (some (s0, ρ))
set_option maxHeartbeats 4000000 in
set_option maxRecDepth 100000 in
theorem rw_M_isNamed_120 {X : CX} (E : EV X prog_13_method_36_code 7 "PlaceFinderModel" (some .boolean)) {μ0 μ : Mem} {b : Nat} {r : Int32} {ρ' : RS} (hQ : RQ X 0 0 μ0 (some (vI r)) (ov b ρ' μ)) (hR : xR X = { frames := 2, cells := 0, slots := 0, locals := 44 }) (hI : X.2.2.2.2.2.2.2.2.2.2.2.1.name = "isNamed") (hW : mW μ ≤ b)  (s0 : Int32) (ρ : RS) (h : RB_M_isNamed_120  s0 ρ = some (r, ρ')) : WM X 7 120 [] [vI s0] 0 0 (ov b ρ μ) := by
  have h : (gd (¬ okZ s0 = true) (some (s0, ρ))) = some (r, ρ') := h
  obtain ⟨hz120, h⟩ := gdS h
  exact wm_zret (rt := .boolean) E hQ (rrI h) (rrM h) (okZN hz120) (by decide) (by decide) dM_isNamed_120
def RB_M_isNamed_74  : Nat → Int32 → Int32 → Int32 → Int32 → RS → Option (Int32 × RS)
  | 0, _, _, _, _, _ => none
  | n + 1, v2, v4, v5, v6, ρ => if v4 ≤ v6 then b1 (R_M_soundOf  (ρ)) (fun x107 => if x107 = v5 then RB_M_isNamed_120 1 (ρ) else RB_M_isNamed_120 0 (ρ)) else b1 (rgI ρ 29 250 ((10 * v2) + v6)) (fun x98 => b1 (rsI ρ 39 10 v6 x98) (fun ρ99 => (fun v2 v4 v5 v6 ρ => RB_M_isNamed_74 n v2 v4 v5 v6 ρ) v2 v4 v5 (v6 + 1) (ρ99)))
set_option maxHeartbeats 4000000 in
set_option maxRecDepth 100000 in
theorem rw_M_isNamed_74 {X : CX} (E : EV X prog_13_method_36_code 7 "PlaceFinderModel" (some .boolean)) {μ0 μ : Mem} {b : Nat} {r : Int32} {ρ' : RS} (hQ : RQ X 0 0 μ0 (some (vI r)) (ov b ρ' μ)) (hR : xR X = { frames := 2, cells := 0, slots := 0, locals := 44 }) (hI : X.2.2.2.2.2.2.2.2.2.2.2.1.name = "isNamed") (hW : mW μ ≤ b)  (n : Nat) : ∀ (v2 : Int32) (v4 : Int32) (v5 : Int32) (v6 : Int32) (ρ : RS) (h : RB_M_isNamed_74  n v2 v4 v5 v6 ρ = some (r, ρ')), WM X 7 74 [(0, vR (some b)), (2, vI v2), (4, vI v4), (5, vI v5), (6, vI v6)] [] 0 0 (ov b ρ μ) := by
  induction n with
  | zero => intro v2 v4 v5 v6 ρ h; cases h
  | succ n ih =>
    intro v2 v4 v5 v6 ρ h
    have h : (if v4 ≤ v6 then b1 (R_M_soundOf  (ρ)) (fun x107 => if x107 = v5 then RB_M_isNamed_120 1 (ρ) else RB_M_isNamed_120 0 (ρ)) else b1 (rgI ρ 29 250 ((10 * v2) + v6)) (fun x98 => b1 (rsI ρ 39 10 v6 x98) (fun ρ99 => (fun v2 v4 v5 v6 ρ => RB_M_isNamed_74 n v2 v4 v5 v6 ρ) v2 v4 v5 (v6 + 1) (ρ99)))) = some (r, ρ') := h
    refine wm_iload E dM_isNamed_74 (j := 4) rfl ?_
    refine wm_iload E dM_isNamed_76 (j := 2) rfl ?_
    refine wm_icmp_ge (tgt := 106) E dM_isNamed_78 (by decide) (fun c78 => ?_) (fun c78 => ?_)
    · have h := (if_pos c78).symm.trans h
      refine wm_aload_n E dM_isNamed_106 rfl (j := 0) rfl ?_
      obtain ⟨x107, hc107, h⟩ := b1S h
      refine wm_cV (ci := 12) (As := []) (st := []) E lk_M_191 rfl im_M_soundOf sl_M_soundOf (ov_rc _ _ _) (RC_M_soundOf (xl X) X.1 b (ρ) μ  _ hc107) rfl rfl (by rw [hR]; decide) (by rw [hR]; decide) (Nat.le_of_ble_eq_true rfl) dM_isNamed_107 ?_
      refine wm_iload E dM_isNamed_110 (j := 3) rfl ?_
      refine wm_icmp_ne (tgt := 119) E dM_isNamed_112 (by decide) (fun c112 => ?_) (fun c112 => ?_)
      · have h := (if_neg c112).symm.trans h
        refine wm_iconst (x := 0) E dM_isNamed_119 (by decide) ?_
        refine wm_pick (lv' := []) [] rfl ?_
        exact rw_M_isNamed_120 E hQ hR hI hW 0 (ρ) h
      · have h := (if_pos c112).symm.trans h
        refine wm_iconst (x := 1) E dM_isNamed_115 (by decide) ?_
        refine wm_goto (tgt := 120) E dM_isNamed_116 (by decide) ?_
        refine wm_pick (lv' := []) [] rfl ?_
        exact rw_M_isNamed_120 E hQ hR hI hW 1 (ρ) h
    · have h := (if_neg c78).symm.trans h
      refine wm_aload_n E dM_isNamed_81 rfl (j := 0) rfl ?_
      refine wm_rget (v := vR (some (b + 34))) E fd_M_110 rfl dM_isNamed_82 ?_
      refine wm_iload E dM_isNamed_85 (j := 4) rfl ?_
      refine wm_aload_n E dM_isNamed_87 rfl (j := 0) rfl ?_
      refine wm_rget (v := vR (some (b + 26))) E fd_M_85 rfl dM_isNamed_88 ?_
      refine wm_bipush (x := 10) E dM_isNamed_91 (by decide) ?_
      refine wm_iload_n E dM_isNamed_93 rfl (j := 1) rfl ?_
      refine wm_imul E dM_isNamed_94 ?_
      refine wm_iload E dM_isNamed_95 (j := 4) rfl ?_
      refine wm_iadd E dM_isNamed_97 ?_
      refine wm_riald E (by decide) rfl rfl (by decide) (by decide) h dM_isNamed_98 (fun x98 h => ?_)
      refine wm_riast E (by decide) rfl rfl (by decide) (by decide) hW h dM_isNamed_99 (fun ρ99 h => ?_)
      refine wm_iinc (lv' := [(6, vI (v6 + 1)), (0, vR (some b)), (2, vI v2), (4, vI v4), (5, vI v5)]) (d := 1) E dM_isNamed_100 (by decide) (j := 4) rfl (by decide) rfl ?_
      refine wm_goto (tgt := 74) E dM_isNamed_103 (by decide) ?_
      refine wm_pick (lv' := [(0, vR (some b)), (2, vI v2), (4, vI v4), (5, vI v5), (6, vI (v6 + 1))]) [1, 2, 3, 4, 0] rfl ?_
      exact ih v2 v4 v5 (v6 + 1) (ρ99) h
def RB_M_isNamed_53  (s0 : Int32) (ρ : RS) : Option (Int32 × RS) := gd (¬ okZ s0 = true) (some (s0, ρ))
set_option maxHeartbeats 4000000 in
set_option maxRecDepth 100000 in
theorem rw_M_isNamed_53 {X : CX} (E : EV X prog_13_method_36_code 7 "PlaceFinderModel" (some .boolean)) {μ0 μ : Mem} {b : Nat} {r : Int32} {ρ' : RS} (hQ : RQ X 0 0 μ0 (some (vI r)) (ov b ρ' μ)) (hR : xR X = { frames := 2, cells := 0, slots := 0, locals := 44 }) (hI : X.2.2.2.2.2.2.2.2.2.2.2.1.name = "isNamed") (hW : mW μ ≤ b)  (s0 : Int32) (ρ : RS) (h : RB_M_isNamed_53  s0 ρ = some (r, ρ')) : WM X 7 53 [] [vI s0] 0 0 (ov b ρ μ) := by
  have h : (gd (¬ okZ s0 = true) (some (s0, ρ))) = some (r, ρ') := h
  obtain ⟨hz53, h⟩ := gdS h
  exact wm_zret (rt := .boolean) E hQ (rrI h) (rrM h) (okZN hz53) (by decide) (by decide) dM_isNamed_53
def R_M_isNamed (v1 : Int32) (v2 : Int32) (ρ : RS) : Option (Int32 × RS) := b1 (rgI ρ 24 25 v2) (fun x5 => b1 (rgI ρ 28 25 v2) (fun x12 => c2 (R_M_foldName v1 (ρ)) (fun x17 ρ17 => if x5 = 2 then c2 (R_M_errorsTo 29 (10 * v2) x12 (ρ17)) (fun x36 ρ36 => b1 (rgI ρ36 25 25 v2) (fun x44 => if x44 < x36 then RB_M_isNamed_53 0 (ρ36) else RB_M_isNamed_53 1 (ρ36))) else if x5 = 3 then b1 (R_M_soundOf  (ρ17)) (fun x60 => b0 (rpI ρ17 38 x12) (fun ρ68 => RB_M_isNamed_74 fu v2 x12 x60 0 (ρ68))) else if x5 = 0 then if (ri ρ17 38) = x12 then RB_M_isNamed_156 v2 x12 1 (ρ17) else RB_M_isNamed_156 v2 x12 0 (ρ17) else if (ri ρ17 38) < x12 then RB_M_isNamed_156 v2 x12 0 (ρ17) else RB_M_isNamed_156 v2 x12 1 (ρ17))))
set_option maxHeartbeats 4000000 in
set_option maxRecDepth 100000 in
theorem RC_M_isNamed (l : Launch) (G : GG) (b : Nat) (ρ : RS) (μ : Mem) (hW : mW μ ≤ b) (v1 : Int32) (v2 : Int32) (r : Int32) (ρ' : RS) (h : R_M_isNamed v1 v2 ρ = some (r, ρ')) : CT l G y_M_isNamed prog_13_method_36_code 7 (some .boolean) 2 0 0 44 (ov b ρ μ) [vR (some b), vI v1, vI v2] (some (vI r)) (ov b ρ' μ) := by
  refine wm_met (lv := [(0, vR (some b)), (1, vI v1), (2, vI v2)]) (by decide +kernel) (Nat.le_of_ble_eq_true rfl) rfl (fun X E hQ hR hI => ?_)
  have h : (b1 (rgI ρ 24 25 v2) (fun x5 => b1 (rgI ρ 28 25 v2) (fun x12 => c2 (R_M_foldName v1 (ρ)) (fun x17 ρ17 => if x5 = 2 then c2 (R_M_errorsTo 29 (10 * v2) x12 (ρ17)) (fun x36 ρ36 => b1 (rgI ρ36 25 25 v2) (fun x44 => if x44 < x36 then RB_M_isNamed_53 0 (ρ36) else RB_M_isNamed_53 1 (ρ36))) else if x5 = 3 then b1 (R_M_soundOf  (ρ17)) (fun x60 => b0 (rpI ρ17 38 x12) (fun ρ68 => RB_M_isNamed_74 fu v2 x12 x60 0 (ρ68))) else if x5 = 0 then if (ri ρ17 38) = x12 then RB_M_isNamed_156 v2 x12 1 (ρ17) else RB_M_isNamed_156 v2 x12 0 (ρ17) else if (ri ρ17 38) < x12 then RB_M_isNamed_156 v2 x12 0 (ρ17) else RB_M_isNamed_156 v2 x12 1 (ρ17))))) = some (r, ρ') := h
  refine wm_aload_n E dM_isNamed_0 rfl (j := 0) rfl ?_
  refine wm_rget (v := vR (some (b + 21))) E fd_M_70 rfl dM_isNamed_1 ?_
  refine wm_iload_n E dM_isNamed_4 rfl (j := 2) rfl ?_
  refine wm_riald E (by decide) rfl rfl (by decide) (by decide) h dM_isNamed_5 (fun x5 h => ?_)
  refine wm_istore_n (lv' := [(3, vI x5), (0, vR (some b)), (1, vI v1), (2, vI v2)]) E dM_isNamed_6 rfl (by decide) rfl ?_
  refine wm_aload_n E dM_isNamed_7 rfl (j := 1) rfl ?_
  refine wm_rget (v := vR (some (b + 25))) E fd_M_82 rfl dM_isNamed_8 ?_
  refine wm_iload_n E dM_isNamed_11 rfl (j := 3) rfl ?_
  refine wm_riald E (by decide) rfl rfl (by decide) (by decide) h dM_isNamed_12 (fun x12 h => ?_)
  refine wm_istore (lv' := [(4, vI x12), (3, vI x5), (0, vR (some b)), (1, vI v1), (2, vI v2)]) E dM_isNamed_13 (by decide) rfl ?_
  refine wm_aload_n E dM_isNamed_15 rfl (j := 2) rfl ?_
  refine wm_iload_n E dM_isNamed_16 rfl (j := 3) rfl ?_
  obtain ⟨x17, ρ17, hc17, h⟩ := c2S h
  refine wm_cV (ci := 12) (As := [vI v1]) (st := []) E lk_M_208 rfl im_M_foldName sl_M_foldName (ov_rc _ _ _) (RC_M_foldName (xl X) X.1 b (ρ) μ hW v1 _ _ hc17) rfl rfl (by rw [hR]; decide) (by rw [hR]; decide) (Nat.le_of_ble_eq_true rfl) dM_isNamed_17 ?_
  refine wm_iload_n E dM_isNamed_20 rfl (j := 1) rfl ?_
  refine wm_iconst (x := 2) E dM_isNamed_21 (by decide) ?_
  refine wm_icmp_ne (tgt := 54) E dM_isNamed_22 (by decide) (fun c22 => ?_) (fun c22 => ?_)
  · have h := (if_neg c22).symm.trans h
    refine wm_iload_n E dM_isNamed_54 rfl (j := 1) rfl ?_
    refine wm_iconst (x := 3) E dM_isNamed_55 (by decide) ?_
    refine wm_icmp_ne (tgt := 121) E dM_isNamed_56 (by decide) (fun c56 => ?_) (fun c56 => ?_)
    · have h := (if_neg c56).symm.trans h
      refine wm_iload_n E dM_isNamed_121 rfl (j := 1) rfl ?_
      refine wm_if_ne (tgt := 142) E dM_isNamed_122 (by decide) (fun c122 => ?_) (fun c122 => ?_)
      · have h := (if_neg c122).symm.trans h
        refine wm_aload_n E dM_isNamed_142 rfl (j := 2) rfl ?_
        refine wm_rget (v := vI (ri ρ17 38)) E fd_M_179 rfl dM_isNamed_143 ?_
        refine wm_iload E dM_isNamed_146 (j := 0) rfl ?_
        refine wm_icmp_lt (tgt := 155) E dM_isNamed_148 (by decide) (fun c148 => ?_) (fun c148 => ?_)
        · have h := (if_pos c148).symm.trans h
          refine wm_iconst (x := 0) E dM_isNamed_155 (by decide) ?_
          refine wm_pick (lv' := [(0, vR (some b)), (2, vI v2), (4, vI x12)]) [2, 4, 0] rfl ?_
          exact rw_M_isNamed_156 E hQ hR hI hW v2 x12 0 (ρ17) h
        · have h := (if_neg c148).symm.trans h
          refine wm_iconst (x := 1) E dM_isNamed_151 (by decide) ?_
          refine wm_goto (tgt := 156) E dM_isNamed_152 (by decide) ?_
          refine wm_pick (lv' := [(0, vR (some b)), (2, vI v2), (4, vI x12)]) [2, 4, 0] rfl ?_
          exact rw_M_isNamed_156 E hQ hR hI hW v2 x12 1 (ρ17) h
      · have h := (if_pos c122).symm.trans h
        refine wm_aload_n E dM_isNamed_125 rfl (j := 2) rfl ?_
        refine wm_rget (v := vI (ri ρ17 38)) E fd_M_179 rfl dM_isNamed_126 ?_
        refine wm_iload E dM_isNamed_129 (j := 0) rfl ?_
        refine wm_icmp_ne (tgt := 138) E dM_isNamed_131 (by decide) (fun c131 => ?_) (fun c131 => ?_)
        · have h := (if_neg c131).symm.trans h
          refine wm_iconst (x := 0) E dM_isNamed_138 (by decide) ?_
          refine wm_goto (tgt := 156) E dM_isNamed_139 (by decide) ?_
          refine wm_pick (lv' := [(0, vR (some b)), (2, vI v2), (4, vI x12)]) [2, 4, 0] rfl ?_
          exact rw_M_isNamed_156 E hQ hR hI hW v2 x12 0 (ρ17) h
        · have h := (if_pos c131).symm.trans h
          refine wm_iconst (x := 1) E dM_isNamed_134 (by decide) ?_
          refine wm_goto (tgt := 156) E dM_isNamed_135 (by decide) ?_
          refine wm_pick (lv' := [(0, vR (some b)), (2, vI v2), (4, vI x12)]) [2, 4, 0] rfl ?_
          exact rw_M_isNamed_156 E hQ hR hI hW v2 x12 1 (ρ17) h
    · have h := (if_pos c56).symm.trans h
      refine wm_aload_n E dM_isNamed_59 rfl (j := 2) rfl ?_
      obtain ⟨x60, hc60, h⟩ := b1S h
      refine wm_cV (ci := 12) (As := []) (st := []) E lk_M_191 rfl im_M_soundOf sl_M_soundOf (ov_rc _ _ _) (RC_M_soundOf (xl X) X.1 b (ρ17) μ  _ hc60) rfl rfl (by rw [hR]; decide) (by rw [hR]; decide) (Nat.le_of_ble_eq_true rfl) dM_isNamed_60 ?_
      refine wm_istore (lv' := [(5, vI x60), (4, vI x12), (3, vI x5), (0, vR (some b)), (1, vI v1), (2, vI v2)]) E dM_isNamed_63 (by decide) rfl ?_
      refine wm_aload_n E dM_isNamed_65 rfl (j := 3) rfl ?_
      refine wm_iload E dM_isNamed_66 (j := 1) rfl ?_
      refine wm_rpI E fp_M_179 (fun q => by cases q) rfl (by decide) hW dM_isNamed_68 ?_
      refine wm_rlet h (fun ρ68 h => ?_)
      refine wm_iconst (x := 0) E dM_isNamed_71 (by decide) ?_
      refine wm_istore (lv' := [(6, vI 0), (5, vI x60), (4, vI x12), (3, vI x5), (0, vR (some b)), (1, vI v1), (2, vI v2)]) E dM_isNamed_72 (by decide) rfl ?_
      refine wm_pick (lv' := [(0, vR (some b)), (2, vI v2), (4, vI x12), (5, vI x60), (6, vI 0)]) [4, 6, 2, 1, 0] rfl ?_
      exact rw_M_isNamed_74 E hQ hR hI hW fu v2 x12 x60 0 (ρ68) h
  · have h := (if_pos c22).symm.trans h
    refine wm_aload_n E dM_isNamed_25 rfl (j := 2) rfl ?_
    refine wm_aload_n E dM_isNamed_26 rfl (j := 2) rfl ?_
    refine wm_rget (v := vR (some (b + 26))) E fd_M_85 rfl dM_isNamed_27 ?_
    refine wm_bipush (x := 10) E dM_isNamed_30 (by decide) ?_
    refine wm_iload_n E dM_isNamed_32 rfl (j := 4) rfl ?_
    refine wm_imul E dM_isNamed_33 ?_
    refine wm_iload E dM_isNamed_34 (j := 0) rfl ?_
    obtain ⟨x36, ρ36, hc36, h⟩ := c2S h
    refine wm_cV (ci := 12) (As := [vR (some (b + 26)), vI (10 * v2), vI x12]) (st := []) E lk_M_198 rfl im_M_errorsTo sl_M_errorsTo (ov_rc _ _ _) (RC_M_errorsTo (xl X) X.1 b (ρ17) μ hW 29 (10 * v2) x12 (by decide) _ _ hc36) rfl rfl (by rw [hR]; decide) (by rw [hR]; decide) (Nat.le_of_ble_eq_true rfl) dM_isNamed_36 ?_
    refine wm_aload_n E dM_isNamed_39 rfl (j := 2) rfl ?_
    refine wm_rget (v := vR (some (b + 22))) E fd_M_73 rfl dM_isNamed_40 ?_
    refine wm_iload_n E dM_isNamed_43 rfl (j := 4) rfl ?_
    refine wm_riald E (by decide) rfl rfl (by decide) (by decide) h dM_isNamed_44 (fun x44 h => ?_)
    refine wm_icmp_gt (tgt := 52) E dM_isNamed_45 (by decide) (fun c45 => ?_) (fun c45 => ?_)
    · have h := (if_pos c45).symm.trans h
      refine wm_iconst (x := 0) E dM_isNamed_52 (by decide) ?_
      refine wm_pick (lv' := []) [] rfl ?_
      exact rw_M_isNamed_53 E hQ hR hI hW 0 (ρ36) h
    · have h := (if_neg c45).symm.trans h
      refine wm_iconst (x := 1) E dM_isNamed_48 (by decide) ?_
      refine wm_goto (tgt := 53) E dM_isNamed_49 (by decide) ?_
      refine wm_pick (lv' := []) [] rfl ?_
      exact rw_M_isNamed_53 E hQ hR hI hW 1 (ρ36) h
def R_M_isOf (v1 : Int32) (v2 : Int32) (ρ : RS) : Option Int32 := b1 (rgI ρ 10 60 v1) (fun x6 => b1 (rgI ρ 11 60 v1) (fun x12 => b1 (R_M_in v2 x6 x12) (fun x13 => gd (¬ okZ x13 = true) (some (x13)))))
set_option maxHeartbeats 4000000 in
set_option maxRecDepth 100000 in
theorem RC_M_isOf (l : Launch) (G : GG) (b : Nat) (ρ : RS) (μ : Mem) (v1 : Int32) (v2 : Int32) (r : Int32) (h : R_M_isOf v1 v2 ρ = some r) : CT l G y_M_isOf prog_13_method_37_code 3 (some .boolean) 1 0 0 22 (ov b ρ μ) [vR (some b), vI v1, vI v2] (some (vI r)) (ov b ρ μ) := by
  refine wm_met (lv := [(0, vR (some b)), (1, vI v1), (2, vI v2)]) (by decide +kernel) (Nat.le_of_ble_eq_true rfl) rfl (fun X E hQ hR hI => ?_)
  have h : (b1 (rgI ρ 10 60 v1) (fun x6 => b1 (rgI ρ 11 60 v1) (fun x12 => b1 (R_M_in v2 x6 x12) (fun x13 => gd (¬ okZ x13 = true) (some (x13)))))) = some r := h
  refine wm_iload_n E dM_isOf_0 rfl (j := 2) rfl ?_
  refine wm_aload_n E dM_isOf_1 rfl (j := 0) rfl ?_
  refine wm_rget (v := vR (some (b + 9))) E fd_M_34 rfl dM_isOf_2 ?_
  refine wm_iload_n E dM_isOf_5 rfl (j := 1) rfl ?_
  refine wm_riald E (by decide) rfl rfl (by decide) (by decide) h dM_isOf_6 (fun x6 h => ?_)
  refine wm_aload_n E dM_isOf_7 rfl (j := 0) rfl ?_
  refine wm_rget (v := vR (some (b + 10))) E fd_M_37 rfl dM_isOf_8 ?_
  refine wm_iload_n E dM_isOf_11 rfl (j := 1) rfl ?_
  refine wm_riald E (by decide) rfl rfl (by decide) (by decide) h dM_isOf_12 (fun x12 h => ?_)
  obtain ⟨x13, hc13, h⟩ := b1S h
  refine wm_cS (As := [vI v2, vI x6, vI x12]) (st := []) E lk_M_139 sc_M_in (RC_M_in (xl X) X.1 v2 x6 x12 _ _ hc13) rfl rfl (by rw [hR]; decide) (by rw [hR]; decide) (Nat.le_of_ble_eq_true rfl) dM_isOf_13 ?_
  obtain ⟨hz16, h⟩ := gdS h
  exact wm_zret (rt := .boolean) E hQ (rqI0 h) rfl (okZN hz16) (by decide) (by decide) dM_isOf_16
def RB_M_hasName_55 (k6 : Int32 → Int32 → Int32 → Int32 → Int32 → RS → Option (Int32 × RS)) (v1 : Int32) (v2 : Int32) (v3 : Int32) (v5 : Int32) (s0 : Int32) (ρ : RS) : Option (Int32 × RS) := k6 v1 v2 v3 s0 (v5 + 1) (ρ)
set_option maxHeartbeats 4000000 in
set_option maxRecDepth 100000 in
theorem rw_M_hasName_55 {X : CX} (E : EV X prog_13_method_38_code 6 "PlaceFinderModel" (some .boolean)) {μ0 μ : Mem} {b : Nat} {r : Int32} {ρ' : RS} (hQ : RQ X 0 0 μ0 (some (vI r)) (ov b ρ' μ)) (hR : xR X = { frames := 3, cells := 0, slots := 0, locals := 70 }) (hI : X.2.2.2.2.2.2.2.2.2.2.2.1.name = "hasName") (hW : mW μ ≤ b) (k6 : Int32 → Int32 → Int32 → Int32 → Int32 → RS → Option (Int32 × RS)) (hk6 : ∀ (v1 : Int32) (v2 : Int32) (v3 : Int32) (v4 : Int32) (v5 : Int32) (ρ : RS), k6 v1 v2 v3 v4 v5 ρ = some (r, ρ') → WM X 6 6 [(0, vR (some b)), (1, vI v1), (2, vI v2), (3, vI v3), (4, vI v4), (5, vI v5)] [] 0 0 (ov b ρ μ)) (v1 : Int32) (v2 : Int32) (v3 : Int32) (v5 : Int32) (s0 : Int32) (ρ : RS) (h : RB_M_hasName_55 k6 v1 v2 v3 v5 s0 ρ = some (r, ρ')) : WM X 6 55 [(0, vR (some b)), (1, vI v1), (2, vI v2), (3, vI v3), (5, vI v5)] [vI s0] 0 0 (ov b ρ μ) := by
  have h : (k6 v1 v2 v3 s0 (v5 + 1) (ρ)) = some (r, ρ') := h
  refine wm_istore (lv' := [(4, vI s0), (0, vR (some b)), (1, vI v1), (2, vI v2), (3, vI v3), (5, vI v5)]) E dM_hasName_55 (by decide) rfl ?_
  refine wm_iinc (lv' := [(5, vI (v5 + 1)), (4, vI s0), (0, vR (some b)), (1, vI v1), (2, vI v2), (3, vI v3)]) (d := 1) E dM_hasName_57 (by decide) (j := 5) rfl (by decide) rfl ?_
  refine wm_goto (tgt := 6) E dM_hasName_60 (by decide) ?_
  refine wm_pick (lv' := [(0, vR (some b)), (1, vI v1), (2, vI v2), (3, vI v3), (4, vI s0), (5, vI (v5 + 1))]) [2, 3, 4, 5, 1, 0] rfl ?_
  exact hk6 v1 v2 v3 s0 (v5 + 1) (ρ) h
def RB_M_hasName_50 (k6 : Int32 → Int32 → Int32 → Int32 → Int32 → RS → Option (Int32 × RS)) (v1 : Int32) (v2 : Int32) (v3 : Int32) (v5 : Int32) (ρ : RS) : Option (Int32 × RS) := RB_M_hasName_55 k6 v1 v2 v3 v5 1 (ρ)
set_option maxHeartbeats 4000000 in
set_option maxRecDepth 100000 in
theorem rw_M_hasName_50 {X : CX} (E : EV X prog_13_method_38_code 6 "PlaceFinderModel" (some .boolean)) {μ0 μ : Mem} {b : Nat} {r : Int32} {ρ' : RS} (hQ : RQ X 0 0 μ0 (some (vI r)) (ov b ρ' μ)) (hR : xR X = { frames := 3, cells := 0, slots := 0, locals := 70 }) (hI : X.2.2.2.2.2.2.2.2.2.2.2.1.name = "hasName") (hW : mW μ ≤ b) (k6 : Int32 → Int32 → Int32 → Int32 → Int32 → RS → Option (Int32 × RS)) (hk6 : ∀ (v1 : Int32) (v2 : Int32) (v3 : Int32) (v4 : Int32) (v5 : Int32) (ρ : RS), k6 v1 v2 v3 v4 v5 ρ = some (r, ρ') → WM X 6 6 [(0, vR (some b)), (1, vI v1), (2, vI v2), (3, vI v3), (4, vI v4), (5, vI v5)] [] 0 0 (ov b ρ μ)) (v1 : Int32) (v2 : Int32) (v3 : Int32) (v5 : Int32) (ρ : RS) (h : RB_M_hasName_50 k6 v1 v2 v3 v5 ρ = some (r, ρ')) : WM X 6 50 [(0, vR (some b)), (1, vI v1), (2, vI v2), (3, vI v3), (5, vI v5)] [] 0 0 (ov b ρ μ) := by
  have h : (RB_M_hasName_55 k6 v1 v2 v3 v5 1 (ρ)) = some (r, ρ') := h
  refine wm_iconst (x := 1) E dM_hasName_50 (by decide) ?_
  refine wm_goto (tgt := 55) E dM_hasName_51 (by decide) ?_
  refine wm_pick (lv' := [(0, vR (some b)), (1, vI v1), (2, vI v2), (3, vI v3), (5, vI v5)]) [0, 1, 2, 3, 4] rfl ?_
  exact rw_M_hasName_55 E hQ hR hI hW k6 hk6 v1 v2 v3 v5 1 (ρ) h
def RB_M_hasName_54 (k6 : Int32 → Int32 → Int32 → Int32 → Int32 → RS → Option (Int32 × RS)) (v1 : Int32) (v2 : Int32) (v3 : Int32) (v5 : Int32) (ρ : RS) : Option (Int32 × RS) := RB_M_hasName_55 k6 v1 v2 v3 v5 0 (ρ)
set_option maxHeartbeats 4000000 in
set_option maxRecDepth 100000 in
theorem rw_M_hasName_54 {X : CX} (E : EV X prog_13_method_38_code 6 "PlaceFinderModel" (some .boolean)) {μ0 μ : Mem} {b : Nat} {r : Int32} {ρ' : RS} (hQ : RQ X 0 0 μ0 (some (vI r)) (ov b ρ' μ)) (hR : xR X = { frames := 3, cells := 0, slots := 0, locals := 70 }) (hI : X.2.2.2.2.2.2.2.2.2.2.2.1.name = "hasName") (hW : mW μ ≤ b) (k6 : Int32 → Int32 → Int32 → Int32 → Int32 → RS → Option (Int32 × RS)) (hk6 : ∀ (v1 : Int32) (v2 : Int32) (v3 : Int32) (v4 : Int32) (v5 : Int32) (ρ : RS), k6 v1 v2 v3 v4 v5 ρ = some (r, ρ') → WM X 6 6 [(0, vR (some b)), (1, vI v1), (2, vI v2), (3, vI v3), (4, vI v4), (5, vI v5)] [] 0 0 (ov b ρ μ)) (v1 : Int32) (v2 : Int32) (v3 : Int32) (v5 : Int32) (ρ : RS) (h : RB_M_hasName_54 k6 v1 v2 v3 v5 ρ = some (r, ρ')) : WM X 6 54 [(0, vR (some b)), (1, vI v1), (2, vI v2), (3, vI v3), (5, vI v5)] [] 0 0 (ov b ρ μ) := by
  have h : (RB_M_hasName_55 k6 v1 v2 v3 v5 0 (ρ)) = some (r, ρ') := h
  refine wm_iconst (x := 0) E dM_hasName_54 (by decide) ?_
  refine wm_pick (lv' := [(0, vR (some b)), (1, vI v1), (2, vI v2), (3, vI v3), (5, vI v5)]) [0, 1, 2, 3, 4] rfl ?_
  exact rw_M_hasName_55 E hQ hR hI hW k6 hk6 v1 v2 v3 v5 0 (ρ) h
def RB_M_hasName_6  : Nat → Int32 → Int32 → Int32 → Int32 → Int32 → RS → Option (Int32 × RS)
  | 0, _, _, _, _, _, _ => none
  | n + 1, v1, v2, v3, v4, v5, ρ => b1 (rgI ρ 9 30 v1) (fun x13 => if x13 ≤ v5 then gd (¬ okZ v4 = true) (some (v4, ρ)) else if v4 = 0 then b1 (R_M_isOf ((2 * v1) + v5) v2 (ρ)) (fun x30 => if x30 = 0 then RB_M_hasName_54 (fun v1 v2 v3 v4 v5 ρ => RB_M_hasName_6 n v1 v2 v3 v4 v5 ρ) v1 v2 v3 v5 (ρ) else c2 (R_M_isNamed ((2 * v1) + v5) v3 (ρ)) (fun x44 ρ44 => if x44 = 0 then RB_M_hasName_54 (fun v1 v2 v3 v4 v5 ρ => RB_M_hasName_6 n v1 v2 v3 v4 v5 ρ) v1 v2 v3 v5 (ρ44) else RB_M_hasName_50 (fun v1 v2 v3 v4 v5 ρ => RB_M_hasName_6 n v1 v2 v3 v4 v5 ρ) v1 v2 v3 v5 (ρ44))) else RB_M_hasName_50 (fun v1 v2 v3 v4 v5 ρ => RB_M_hasName_6 n v1 v2 v3 v4 v5 ρ) v1 v2 v3 v5 (ρ))
set_option maxHeartbeats 4000000 in
set_option maxRecDepth 100000 in
theorem rw_M_hasName_6 {X : CX} (E : EV X prog_13_method_38_code 6 "PlaceFinderModel" (some .boolean)) {μ0 μ : Mem} {b : Nat} {r : Int32} {ρ' : RS} (hQ : RQ X 0 0 μ0 (some (vI r)) (ov b ρ' μ)) (hR : xR X = { frames := 3, cells := 0, slots := 0, locals := 70 }) (hI : X.2.2.2.2.2.2.2.2.2.2.2.1.name = "hasName") (hW : mW μ ≤ b)  (n : Nat) : ∀ (v1 : Int32) (v2 : Int32) (v3 : Int32) (v4 : Int32) (v5 : Int32) (ρ : RS) (h : RB_M_hasName_6  n v1 v2 v3 v4 v5 ρ = some (r, ρ')), WM X 6 6 [(0, vR (some b)), (1, vI v1), (2, vI v2), (3, vI v3), (4, vI v4), (5, vI v5)] [] 0 0 (ov b ρ μ) := by
  induction n with
  | zero => intro v1 v2 v3 v4 v5 ρ h; cases h
  | succ n ih =>
    intro v1 v2 v3 v4 v5 ρ h
    have h : (b1 (rgI ρ 9 30 v1) (fun x13 => if x13 ≤ v5 then gd (¬ okZ v4 = true) (some (v4, ρ)) else if v4 = 0 then b1 (R_M_isOf ((2 * v1) + v5) v2 (ρ)) (fun x30 => if x30 = 0 then RB_M_hasName_54 (fun v1 v2 v3 v4 v5 ρ => RB_M_hasName_6 n v1 v2 v3 v4 v5 ρ) v1 v2 v3 v5 (ρ) else c2 (R_M_isNamed ((2 * v1) + v5) v3 (ρ)) (fun x44 ρ44 => if x44 = 0 then RB_M_hasName_54 (fun v1 v2 v3 v4 v5 ρ => RB_M_hasName_6 n v1 v2 v3 v4 v5 ρ) v1 v2 v3 v5 (ρ44) else RB_M_hasName_50 (fun v1 v2 v3 v4 v5 ρ => RB_M_hasName_6 n v1 v2 v3 v4 v5 ρ) v1 v2 v3 v5 (ρ44))) else RB_M_hasName_50 (fun v1 v2 v3 v4 v5 ρ => RB_M_hasName_6 n v1 v2 v3 v4 v5 ρ) v1 v2 v3 v5 (ρ))) = some (r, ρ') := h
    refine wm_iload E dM_hasName_6 (j := 5) rfl ?_
    refine wm_aload_n E dM_hasName_8 rfl (j := 0) rfl ?_
    refine wm_rget (v := vR (some (b + 8))) E fd_M_31 rfl dM_hasName_9 ?_
    refine wm_iload_n E dM_hasName_12 rfl (j := 1) rfl ?_
    refine wm_riald E (by decide) rfl rfl (by decide) (by decide) h dM_hasName_13 (fun x13 h => ?_)
    refine wm_icmp_ge (tgt := 63) E dM_hasName_14 (by decide) (fun c14 => ?_) (fun c14 => ?_)
    · have h := (if_pos c14).symm.trans h
      refine wm_iload E dM_hasName_63 (j := 4) rfl ?_
      obtain ⟨hz65, h⟩ := gdS h
      exact wm_zret (rt := .boolean) E hQ (rrI h) (rrM h) (okZN hz65) (by decide) (by decide) dM_hasName_65
    · have h := (if_neg c14).symm.trans h
      refine wm_iload E dM_hasName_17 (j := 4) rfl ?_
      refine wm_if_ne (tgt := 50) E dM_hasName_19 (by decide) (fun c19 => ?_) (fun c19 => ?_)
      · have h := (if_neg c19).symm.trans h
        refine wm_pick (lv' := [(0, vR (some b)), (1, vI v1), (2, vI v2), (3, vI v3), (5, vI v5)]) [0, 1, 2, 3, 5] rfl ?_
        exact rw_M_hasName_50 E hQ hR hI hW (fun v1 v2 v3 v4 v5 ρ => RB_M_hasName_6 n v1 v2 v3 v4 v5 ρ) ih v1 v2 v3 v5 (ρ) h
      · have h := (if_pos c19).symm.trans h
        refine wm_aload_n E dM_hasName_22 rfl (j := 0) rfl ?_
        refine wm_iconst (x := 2) E dM_hasName_23 (by decide) ?_
        refine wm_iload_n E dM_hasName_24 rfl (j := 1) rfl ?_
        refine wm_imul E dM_hasName_25 ?_
        refine wm_iload E dM_hasName_26 (j := 5) rfl ?_
        refine wm_iadd E dM_hasName_28 ?_
        refine wm_iload_n E dM_hasName_29 rfl (j := 2) rfl ?_
        obtain ⟨x30, hc30, h⟩ := b1S h
        refine wm_cV (ci := 12) (As := [vI ((2 * v1) + v5), vI v2]) (st := []) E lk_M_212 rfl im_M_isOf sl_M_isOf (ov_rc _ _ _) (RC_M_isOf (xl X) X.1 b (ρ) μ ((2 * v1) + v5) v2 _ hc30) rfl rfl (by rw [hR]; decide) (by rw [hR]; decide) (Nat.le_of_ble_eq_true rfl) dM_hasName_30 ?_
        refine wm_if_eq (tgt := 54) E dM_hasName_33 (by decide) (fun c33 => ?_) (fun c33 => ?_)
        · have h := (if_pos c33).symm.trans h
          refine wm_pick (lv' := [(0, vR (some b)), (1, vI v1), (2, vI v2), (3, vI v3), (5, vI v5)]) [0, 1, 2, 3, 5] rfl ?_
          exact rw_M_hasName_54 E hQ hR hI hW (fun v1 v2 v3 v4 v5 ρ => RB_M_hasName_6 n v1 v2 v3 v4 v5 ρ) ih v1 v2 v3 v5 (ρ) h
        · have h := (if_neg c33).symm.trans h
          refine wm_aload_n E dM_hasName_36 rfl (j := 0) rfl ?_
          refine wm_iconst (x := 2) E dM_hasName_37 (by decide) ?_
          refine wm_iload_n E dM_hasName_38 rfl (j := 1) rfl ?_
          refine wm_imul E dM_hasName_39 ?_
          refine wm_iload E dM_hasName_40 (j := 5) rfl ?_
          refine wm_iadd E dM_hasName_42 ?_
          refine wm_iload_n E dM_hasName_43 rfl (j := 3) rfl ?_
          obtain ⟨x44, ρ44, hc44, h⟩ := c2S h
          refine wm_cV (ci := 12) (As := [vI ((2 * v1) + v5), vI v3]) (st := []) E lk_M_215 rfl im_M_isNamed sl_M_isNamed (ov_rc _ _ _) (RC_M_isNamed (xl X) X.1 b (ρ) μ hW ((2 * v1) + v5) v3 _ _ hc44) rfl rfl (by rw [hR]; decide) (by rw [hR]; decide) (Nat.le_of_ble_eq_true rfl) dM_hasName_44 ?_
          refine wm_if_eq (tgt := 54) E dM_hasName_47 (by decide) (fun c47 => ?_) (fun c47 => ?_)
          · have h := (if_pos c47).symm.trans h
            refine wm_pick (lv' := [(0, vR (some b)), (1, vI v1), (2, vI v2), (3, vI v3), (5, vI v5)]) [0, 1, 2, 3, 5] rfl ?_
            exact rw_M_hasName_54 E hQ hR hI hW (fun v1 v2 v3 v4 v5 ρ => RB_M_hasName_6 n v1 v2 v3 v4 v5 ρ) ih v1 v2 v3 v5 (ρ44) h
          · have h := (if_neg c47).symm.trans h
            refine wm_pick (lv' := [(0, vR (some b)), (1, vI v1), (2, vI v2), (3, vI v3), (5, vI v5)]) [0, 1, 2, 3, 5] rfl ?_
            exact rw_M_hasName_50 E hQ hR hI hW (fun v1 v2 v3 v4 v5 ρ => RB_M_hasName_6 n v1 v2 v3 v4 v5 ρ) ih v1 v2 v3 v5 (ρ44) h
def R_M_hasName (v1 : Int32) (v2 : Int32) (v3 : Int32) (ρ : RS) : Option (Int32 × RS) := RB_M_hasName_6 fu v1 v2 v3 0 0 (ρ)
set_option maxHeartbeats 4000000 in
set_option maxRecDepth 100000 in
theorem RC_M_hasName (l : Launch) (G : GG) (b : Nat) (ρ : RS) (μ : Mem) (hW : mW μ ≤ b) (v1 : Int32) (v2 : Int32) (v3 : Int32) (r : Int32) (ρ' : RS) (h : R_M_hasName v1 v2 v3 ρ = some (r, ρ')) : CT l G y_M_hasName prog_13_method_38_code 6 (some .boolean) 3 0 0 70 (ov b ρ μ) [vR (some b), vI v1, vI v2, vI v3] (some (vI r)) (ov b ρ' μ) := by
  refine wm_met (lv := [(0, vR (some b)), (1, vI v1), (2, vI v2), (3, vI v3)]) (by decide +kernel) (Nat.le_of_ble_eq_true rfl) rfl (fun X E hQ hR hI => ?_)
  have h : (RB_M_hasName_6 fu v1 v2 v3 0 0 (ρ)) = some (r, ρ') := h
  refine wm_iconst (x := 0) E dM_hasName_0 (by decide) ?_
  refine wm_istore (lv' := [(4, vI 0), (0, vR (some b)), (1, vI v1), (2, vI v2), (3, vI v3)]) E dM_hasName_1 (by decide) rfl ?_
  refine wm_iconst (x := 0) E dM_hasName_3 (by decide) ?_
  refine wm_istore (lv' := [(5, vI 0), (4, vI 0), (0, vR (some b)), (1, vI v1), (2, vI v2), (3, vI v3)]) E dM_hasName_4 (by decide) rfl ?_
  refine wm_pick (lv' := [(0, vR (some b)), (1, vI v1), (2, vI v2), (3, vI v3), (4, vI 0), (5, vI 0)]) [2, 3, 4, 5, 1, 0] rfl ?_
  exact rw_M_hasName_6 E hQ hR hI hW fu v1 v2 v3 0 0 (ρ) h
def RB_M_isInside_25 (ρ : RS)   : Option Int32 := gd (¬ okZ 0 = true) (some (0))
set_option maxHeartbeats 4000000 in
set_option maxRecDepth 100000 in
theorem rw_M_isInside_25 {X : CX} (E : EV X prog_13_method_39_code 8 "PlaceFinderModel" (some .boolean)) {μ0 μ : Mem} {b : Nat} {r : Int32} {ρ : RS} (hQ : RQ X 0 0 μ0 (some (vI r)) (ov b ρ μ)) (hR : xR X = { frames := 2, cells := 0, slots := 0, locals := 58 }) (hI : X.2.2.2.2.2.2.2.2.2.2.2.1.name = "isInside")   (h : RB_M_isInside_25 ρ   = some r) : WM X 8 25 [] [] 0 0 (ov b ρ μ) := by
  have h : (gd (¬ okZ 0 = true) (some (0))) = some r := h
  refine wm_iconst (x := 0) E dM_isInside_25 (by decide) ?_
  obtain ⟨hz26, h⟩ := gdS h
  exact wm_zret (rt := .boolean) E hQ (rqI0 h) rfl (okZN hz26) (by decide) (by decide) dM_isInside_26
def RB_M_isInside_98 (ρ : RS) (k41 : Int32 → Int32 → Int32 → Int32 → Option Int32) (v4 : Int32) (v5 : Int32) (v7 : Int32) (s0 : Int32) : Option Int32 := k41 v4 v5 s0 (v7 + 1)
set_option maxHeartbeats 4000000 in
set_option maxRecDepth 100000 in
theorem rw_M_isInside_98 {X : CX} (E : EV X prog_13_method_39_code 8 "PlaceFinderModel" (some .boolean)) {μ0 μ : Mem} {b : Nat} {r : Int32} {ρ : RS} (hQ : RQ X 0 0 μ0 (some (vI r)) (ov b ρ μ)) (hR : xR X = { frames := 2, cells := 0, slots := 0, locals := 58 }) (hI : X.2.2.2.2.2.2.2.2.2.2.2.1.name = "isInside") (k41 : Int32 → Int32 → Int32 → Int32 → Option Int32) (hk41 : ∀ (v4 : Int32) (v5 : Int32) (v6 : Int32) (v7 : Int32), k41 v4 v5 v6 v7 = some r → WM X 8 41 [(0, vR (some b)), (4, vI v4), (5, vI v5), (6, vI v6), (7, vI v7)] [] 0 0 (ov b ρ μ)) (v4 : Int32) (v5 : Int32) (v7 : Int32) (s0 : Int32) (h : RB_M_isInside_98 ρ k41 v4 v5 v7 s0 = some r) : WM X 8 98 [(0, vR (some b)), (4, vI v4), (5, vI v5), (7, vI v7)] [vI s0] 0 0 (ov b ρ μ) := by
  have h : (k41 v4 v5 s0 (v7 + 1)) = some r := h
  refine wm_istore (lv' := [(6, vI s0), (0, vR (some b)), (4, vI v4), (5, vI v5), (7, vI v7)]) E dM_isInside_98 (by decide) rfl ?_
  refine wm_iinc (lv' := [(7, vI (v7 + 1)), (6, vI s0), (0, vR (some b)), (4, vI v4), (5, vI v5)]) (d := 1) E dM_isInside_100 (by decide) (j := 4) rfl (by decide) rfl ?_
  refine wm_goto (tgt := 41) E dM_isInside_103 (by decide) ?_
  refine wm_pick (lv' := [(0, vR (some b)), (4, vI v4), (5, vI v5), (6, vI s0), (7, vI (v7 + 1))]) [2, 3, 4, 1, 0] rfl ?_
  exact hk41 v4 v5 s0 (v7 + 1) h
def RB_M_isInside_97 (ρ : RS) (k41 : Int32 → Int32 → Int32 → Int32 → Option Int32) (v4 : Int32) (v5 : Int32) (v7 : Int32) : Option Int32 := RB_M_isInside_98 ρ k41 v4 v5 v7 0
set_option maxHeartbeats 4000000 in
set_option maxRecDepth 100000 in
theorem rw_M_isInside_97 {X : CX} (E : EV X prog_13_method_39_code 8 "PlaceFinderModel" (some .boolean)) {μ0 μ : Mem} {b : Nat} {r : Int32} {ρ : RS} (hQ : RQ X 0 0 μ0 (some (vI r)) (ov b ρ μ)) (hR : xR X = { frames := 2, cells := 0, slots := 0, locals := 58 }) (hI : X.2.2.2.2.2.2.2.2.2.2.2.1.name = "isInside") (k41 : Int32 → Int32 → Int32 → Int32 → Option Int32) (hk41 : ∀ (v4 : Int32) (v5 : Int32) (v6 : Int32) (v7 : Int32), k41 v4 v5 v6 v7 = some r → WM X 8 41 [(0, vR (some b)), (4, vI v4), (5, vI v5), (6, vI v6), (7, vI v7)] [] 0 0 (ov b ρ μ)) (v4 : Int32) (v5 : Int32) (v7 : Int32) (h : RB_M_isInside_97 ρ k41 v4 v5 v7 = some r) : WM X 8 97 [(0, vR (some b)), (4, vI v4), (5, vI v5), (7, vI v7)] [] 0 0 (ov b ρ μ) := by
  have h : (RB_M_isInside_98 ρ k41 v4 v5 v7 0) = some r := h
  refine wm_iconst (x := 0) E dM_isInside_97 (by decide) ?_
  refine wm_pick (lv' := [(0, vR (some b)), (4, vI v4), (5, vI v5), (7, vI v7)]) [0, 1, 2, 3] rfl ?_
  exact rw_M_isInside_98 E hQ hR hI k41 hk41 v4 v5 v7 0 h
def RB_M_isInside_41 (ρ : RS)  : Nat → Int32 → Int32 → Int32 → Int32 → Option Int32
  | 0, _, _, _, _ => none
  | n + 1, v4, v5, v6, v7 => b1 (rgI ρ 6 90 v5) (fun x49 => if x49 ≤ v7 then gd (¬ okZ v6 = true) (some (v6)) else if v6 = 0 then RB_M_isInside_97 ρ (fun v4 v5 v6 v7 => RB_M_isInside_41 ρ n v4 v5 v6 v7) v4 v5 v7 else b1 (rgI ρ 7 720 ((8 * v5) + v7)) (fun x73 => b1 (rgI ρ 8 720 ((8 * v5) + v7)) (fun x86 => b1 (R_M_liesIn v4 x73 x86 (ρ)) (fun x87 => if x87 = 0 then RB_M_isInside_97 ρ (fun v4 v5 v6 v7 => RB_M_isInside_41 ρ n v4 v5 v6 v7) v4 v5 v7 else RB_M_isInside_98 ρ (fun v4 v5 v6 v7 => RB_M_isInside_41 ρ n v4 v5 v6 v7) v4 v5 v7 1))))
set_option maxHeartbeats 4000000 in
set_option maxRecDepth 100000 in
theorem rw_M_isInside_41 {X : CX} (E : EV X prog_13_method_39_code 8 "PlaceFinderModel" (some .boolean)) {μ0 μ : Mem} {b : Nat} {r : Int32} {ρ : RS} (hQ : RQ X 0 0 μ0 (some (vI r)) (ov b ρ μ)) (hR : xR X = { frames := 2, cells := 0, slots := 0, locals := 58 }) (hI : X.2.2.2.2.2.2.2.2.2.2.2.1.name = "isInside")  (n : Nat) : ∀ (v4 : Int32) (v5 : Int32) (v6 : Int32) (v7 : Int32) (h : RB_M_isInside_41 ρ  n v4 v5 v6 v7 = some r), WM X 8 41 [(0, vR (some b)), (4, vI v4), (5, vI v5), (6, vI v6), (7, vI v7)] [] 0 0 (ov b ρ μ) := by
  induction n with
  | zero => intro v4 v5 v6 v7 h; cases h
  | succ n ih =>
    intro v4 v5 v6 v7 h
    have h : (b1 (rgI ρ 6 90 v5) (fun x49 => if x49 ≤ v7 then gd (¬ okZ v6 = true) (some (v6)) else if v6 = 0 then RB_M_isInside_97 ρ (fun v4 v5 v6 v7 => RB_M_isInside_41 ρ n v4 v5 v6 v7) v4 v5 v7 else b1 (rgI ρ 7 720 ((8 * v5) + v7)) (fun x73 => b1 (rgI ρ 8 720 ((8 * v5) + v7)) (fun x86 => b1 (R_M_liesIn v4 x73 x86 (ρ)) (fun x87 => if x87 = 0 then RB_M_isInside_97 ρ (fun v4 v5 v6 v7 => RB_M_isInside_41 ρ n v4 v5 v6 v7) v4 v5 v7 else RB_M_isInside_98 ρ (fun v4 v5 v6 v7 => RB_M_isInside_41 ρ n v4 v5 v6 v7) v4 v5 v7 1))))) = some r := h
    refine wm_iload E dM_isInside_41 (j := 4) rfl ?_
    refine wm_aload_n E dM_isInside_43 rfl (j := 0) rfl ?_
    refine wm_rget (v := vR (some (b + 5))) E fd_M_22 rfl dM_isInside_44 ?_
    refine wm_iload E dM_isInside_47 (j := 2) rfl ?_
    refine wm_riald E (by decide) rfl rfl (by decide) (by decide) h dM_isInside_49 (fun x49 h => ?_)
    refine wm_icmp_ge (tgt := 106) E dM_isInside_50 (by decide) (fun c50 => ?_) (fun c50 => ?_)
    · have h := (if_pos c50).symm.trans h
      refine wm_iload E dM_isInside_106 (j := 3) rfl ?_
      obtain ⟨hz108, h⟩ := gdS h
      exact wm_zret (rt := .boolean) E hQ (rqI0 h) rfl (okZN hz108) (by decide) (by decide) dM_isInside_108
    · have h := (if_neg c50).symm.trans h
      refine wm_iload E dM_isInside_53 (j := 3) rfl ?_
      refine wm_if_eq (tgt := 97) E dM_isInside_55 (by decide) (fun c55 => ?_) (fun c55 => ?_)
      · have h := (if_pos c55).symm.trans h
        refine wm_pick (lv' := [(0, vR (some b)), (4, vI v4), (5, vI v5), (7, vI v7)]) [0, 1, 2, 4] rfl ?_
        exact rw_M_isInside_97 E hQ hR hI (fun v4 v5 v6 v7 => RB_M_isInside_41 ρ n v4 v5 v6 v7) ih v4 v5 v7 h
      · have h := (if_neg c55).symm.trans h
        refine wm_aload_n E dM_isInside_58 rfl (j := 0) rfl ?_
        refine wm_iload E dM_isInside_59 (j := 1) rfl ?_
        refine wm_aload_n E dM_isInside_61 rfl (j := 0) rfl ?_
        refine wm_rget (v := vR (some (b + 6))) E fd_M_25 rfl dM_isInside_62 ?_
        refine wm_bipush (x := 8) E dM_isInside_65 (by decide) ?_
        refine wm_iload E dM_isInside_67 (j := 2) rfl ?_
        refine wm_imul E dM_isInside_69 ?_
        refine wm_iload E dM_isInside_70 (j := 4) rfl ?_
        refine wm_iadd E dM_isInside_72 ?_
        refine wm_riald E (by decide) rfl rfl (by decide) (by decide) h dM_isInside_73 (fun x73 h => ?_)
        refine wm_aload_n E dM_isInside_74 rfl (j := 0) rfl ?_
        refine wm_rget (v := vR (some (b + 7))) E fd_M_28 rfl dM_isInside_75 ?_
        refine wm_bipush (x := 8) E dM_isInside_78 (by decide) ?_
        refine wm_iload E dM_isInside_80 (j := 2) rfl ?_
        refine wm_imul E dM_isInside_82 ?_
        refine wm_iload E dM_isInside_83 (j := 4) rfl ?_
        refine wm_iadd E dM_isInside_85 ?_
        refine wm_riald E (by decide) rfl rfl (by decide) (by decide) h dM_isInside_86 (fun x86 h => ?_)
        obtain ⟨x87, hc87, h⟩ := b1S h
        refine wm_cV (ci := 12) (As := [vI v4, vI x73, vI x86]) (st := []) E lk_M_169 rfl im_M_liesIn sl_M_liesIn (ov_rc _ _ _) (RC_M_liesIn (xl X) X.1 b (ρ) μ v4 x73 x86 _ hc87) rfl rfl (by rw [hR]; decide) (by rw [hR]; decide) (Nat.le_of_ble_eq_true rfl) dM_isInside_87 ?_
        refine wm_if_eq (tgt := 97) E dM_isInside_90 (by decide) (fun c90 => ?_) (fun c90 => ?_)
        · have h := (if_pos c90).symm.trans h
          refine wm_pick (lv' := [(0, vR (some b)), (4, vI v4), (5, vI v5), (7, vI v7)]) [0, 1, 2, 4] rfl ?_
          exact rw_M_isInside_97 E hQ hR hI (fun v4 v5 v6 v7 => RB_M_isInside_41 ρ n v4 v5 v6 v7) ih v4 v5 v7 h
        · have h := (if_neg c90).symm.trans h
          refine wm_iconst (x := 1) E dM_isInside_93 (by decide) ?_
          refine wm_goto (tgt := 98) E dM_isInside_94 (by decide) ?_
          refine wm_pick (lv' := [(0, vR (some b)), (4, vI v4), (5, vI v5), (7, vI v7)]) [0, 1, 2, 4] rfl ?_
          exact rw_M_isInside_98 E hQ hR hI (fun v4 v5 v6 v7 => RB_M_isInside_41 ρ n v4 v5 v6 v7) ih v4 v5 v7 1 h
def R_M_isInside (v1 : Int32) (v2 : Int32) (v3 : Int32) (ρ : RS) : Option Int32 := b1 (R_M_shapeOf v2 v3 (ρ)) (fun x3 => if x3 = ((-1)) then RB_M_isInside_25 ρ  else b1 (rgI ρ 6 90 x3) (fun x20 => if x20 = 1 then RB_M_isInside_25 ρ  else b1 (R_M_shapeOf v1 v3 (ρ)) (fun x30 => RB_M_isInside_41 ρ fu x3 x30 1 0)))
set_option maxHeartbeats 4000000 in
set_option maxRecDepth 100000 in
theorem RC_M_isInside (l : Launch) (G : GG) (b : Nat) (ρ : RS) (μ : Mem) (v1 : Int32) (v2 : Int32) (v3 : Int32) (r : Int32) (h : R_M_isInside v1 v2 v3 ρ = some r) : CT l G y_M_isInside prog_13_method_39_code 8 (some .boolean) 2 0 0 58 (ov b ρ μ) [vR (some b), vI v1, vI v2, vI v3] (some (vI r)) (ov b ρ μ) := by
  refine wm_met (lv := [(0, vR (some b)), (1, vI v1), (2, vI v2), (3, vI v3)]) (by decide +kernel) (Nat.le_of_ble_eq_true rfl) rfl (fun X E hQ hR hI => ?_)
  have h : (b1 (R_M_shapeOf v2 v3 (ρ)) (fun x3 => if x3 = ((-1)) then RB_M_isInside_25 ρ  else b1 (rgI ρ 6 90 x3) (fun x20 => if x20 = 1 then RB_M_isInside_25 ρ  else b1 (R_M_shapeOf v1 v3 (ρ)) (fun x30 => RB_M_isInside_41 ρ fu x3 x30 1 0)))) = some r := h
  refine wm_aload_n E dM_isInside_0 rfl (j := 0) rfl ?_
  refine wm_iload_n E dM_isInside_1 rfl (j := 2) rfl ?_
  refine wm_iload_n E dM_isInside_2 rfl (j := 3) rfl ?_
  obtain ⟨x3, hc3, h⟩ := b1S h
  refine wm_cV (ci := 12) (As := [vI v2, vI v3]) (st := []) E lk_M_161 rfl im_M_shapeOf sl_M_shapeOf (ov_rc _ _ _) (RC_M_shapeOf (xl X) X.1 b (ρ) μ v2 v3 _ hc3) rfl rfl (by rw [hR]; decide) (by rw [hR]; decide) (Nat.le_of_ble_eq_true rfl) dM_isInside_3 ?_
  refine wm_istore (lv' := [(4, vI x3), (0, vR (some b)), (1, vI v1), (2, vI v2), (3, vI v3)]) E dM_isInside_6 (by decide) rfl ?_
  refine wm_iload E dM_isInside_8 (j := 0) rfl ?_
  refine wm_iconst (x := -1) E dM_isInside_10 (by decide) ?_
  refine wm_icmp_eq (tgt := 25) E dM_isInside_11 (by decide) (fun c11 => ?_) (fun c11 => ?_)
  · have h := (if_pos c11).symm.trans h
    refine wm_pick (lv' := []) [] rfl ?_
    exact rw_M_isInside_25 E hQ hR hI  h
  · have h := (if_neg c11).symm.trans h
    refine wm_aload_n E dM_isInside_14 rfl (j := 1) rfl ?_
    refine wm_rget (v := vR (some (b + 5))) E fd_M_22 rfl dM_isInside_15 ?_
    refine wm_iload E dM_isInside_18 (j := 0) rfl ?_
    refine wm_riald E (by decide) rfl rfl (by decide) (by decide) h dM_isInside_20 (fun x20 h => ?_)
    refine wm_iconst (x := 1) E dM_isInside_21 (by decide) ?_
    refine wm_icmp_ne (tgt := 27) E dM_isInside_22 (by decide) (fun c22 => ?_) (fun c22 => ?_)
    · have h := (if_neg c22).symm.trans h
      refine wm_aload_n E dM_isInside_27 rfl (j := 1) rfl ?_
      refine wm_iload_n E dM_isInside_28 rfl (j := 2) rfl ?_
      refine wm_iload_n E dM_isInside_29 rfl (j := 4) rfl ?_
      obtain ⟨x30, hc30, h⟩ := b1S h
      refine wm_cV (ci := 12) (As := [vI v1, vI v3]) (st := []) E lk_M_161 rfl im_M_shapeOf sl_M_shapeOf (ov_rc _ _ _) (RC_M_shapeOf (xl X) X.1 b (ρ) μ v1 v3 _ hc30) rfl rfl (by rw [hR]; decide) (by rw [hR]; decide) (Nat.le_of_ble_eq_true rfl) dM_isInside_30 ?_
      refine wm_istore (lv' := [(5, vI x30), (4, vI x3), (0, vR (some b)), (1, vI v1), (2, vI v2), (3, vI v3)]) E dM_isInside_33 (by decide) rfl ?_
      refine wm_iconst (x := 1) E dM_isInside_35 (by decide) ?_
      refine wm_istore (lv' := [(6, vI 1), (5, vI x30), (4, vI x3), (0, vR (some b)), (1, vI v1), (2, vI v2), (3, vI v3)]) E dM_isInside_36 (by decide) rfl ?_
      refine wm_iconst (x := 0) E dM_isInside_38 (by decide) ?_
      refine wm_istore (lv' := [(7, vI 0), (6, vI 1), (5, vI x30), (4, vI x3), (0, vR (some b)), (1, vI v1), (2, vI v2), (3, vI v3)]) E dM_isInside_39 (by decide) rfl ?_
      refine wm_pick (lv' := [(0, vR (some b)), (4, vI x3), (5, vI x30), (6, vI 1), (7, vI 0)]) [4, 3, 2, 1, 0] rfl ?_
      exact rw_M_isInside_41 E hQ hR hI fu x3 x30 1 0 h
    · have h := (if_pos c22).symm.trans h
      refine wm_pick (lv' := []) [] rfl ?_
      exact rw_M_isInside_25 E hQ hR hI  h
def RB_M_square_95 (ρ : RS) (k14 : Int32 → Int32 → Int32 → Int32 → Int32 → Option Int32) (v3 : Int32) (v4 : Int32) (v5 : Int32) (v6 : Int32) (v7 : Int32) : Option Int32 := k14 v3 v4 v5 v6 (v7 + 1)
set_option maxHeartbeats 4000000 in
set_option maxRecDepth 100000 in
theorem rw_M_square_95 {X : CX} (E : EV X prog_13_method_40_code 10 "PlaceFinderModel" (some .int)) {μ0 μ : Mem} {b : Nat} {r : Int32} {ρ : RS} (hQ : RQ X 0 0 μ0 (some (vI r)) (ov b ρ μ)) (hR : xR X = { frames := 1, cells := 0, slots := 0, locals := 24 }) (hI : X.2.2.2.2.2.2.2.2.2.2.2.1.name = "square") (k14 : Int32 → Int32 → Int32 → Int32 → Int32 → Option Int32) (hk14 : ∀ (v3 : Int32) (v4 : Int32) (v5 : Int32) (v6 : Int32) (v7 : Int32), k14 v3 v4 v5 v6 v7 = some r → WM X 10 14 [(0, vR (some b)), (3, vI v3), (4, vI v4), (5, vI v5), (6, vI v6), (7, vI v7)] [] 0 0 (ov b ρ μ)) (v3 : Int32) (v4 : Int32) (v5 : Int32) (v6 : Int32) (v7 : Int32) (h : RB_M_square_95 ρ k14 v3 v4 v5 v6 v7 = some r) : WM X 10 95 [(0, vR (some b)), (3, vI v3), (4, vI v4), (5, vI v5), (6, vI v6), (7, vI v7)] [] 0 0 (ov b ρ μ) := by
  have h : (k14 v3 v4 v5 v6 (v7 + 1)) = some r := h
  refine wm_iinc (lv' := [(7, vI (v7 + 1)), (0, vR (some b)), (3, vI v3), (4, vI v4), (5, vI v5), (6, vI v6)]) (d := 1) E dM_square_95 (by decide) (j := 5) rfl (by decide) rfl ?_
  refine wm_goto (tgt := 14) E dM_square_98 (by decide) ?_
  refine wm_pick (lv' := [(0, vR (some b)), (3, vI v3), (4, vI v4), (5, vI v5), (6, vI v6), (7, vI (v7 + 1))]) [1, 2, 3, 4, 5, 0] rfl ?_
  exact hk14 v3 v4 v5 v6 (v7 + 1) h
def RB_M_square_82 (ρ : RS) (k14 : Int32 → Int32 → Int32 → Int32 → Int32 → Option Int32) (v3 : Int32) (v4 : Int32) (v5 : Int32) (v7 : Int32) (v8 : Int32) (v9 : Int32) : Option Int32 := b0 ((v8 * v8) + (v9 * v9)) (fun x93 => RB_M_square_95 ρ k14 v3 v4 v5 x93 v7)
set_option maxHeartbeats 4000000 in
set_option maxRecDepth 100000 in
theorem rw_M_square_82 {X : CX} (E : EV X prog_13_method_40_code 10 "PlaceFinderModel" (some .int)) {μ0 μ : Mem} {b : Nat} {r : Int32} {ρ : RS} (hQ : RQ X 0 0 μ0 (some (vI r)) (ov b ρ μ)) (hR : xR X = { frames := 1, cells := 0, slots := 0, locals := 24 }) (hI : X.2.2.2.2.2.2.2.2.2.2.2.1.name = "square") (k14 : Int32 → Int32 → Int32 → Int32 → Int32 → Option Int32) (hk14 : ∀ (v3 : Int32) (v4 : Int32) (v5 : Int32) (v6 : Int32) (v7 : Int32), k14 v3 v4 v5 v6 v7 = some r → WM X 10 14 [(0, vR (some b)), (3, vI v3), (4, vI v4), (5, vI v5), (6, vI v6), (7, vI v7)] [] 0 0 (ov b ρ μ)) (v3 : Int32) (v4 : Int32) (v5 : Int32) (v7 : Int32) (v8 : Int32) (v9 : Int32) (h : RB_M_square_82 ρ k14 v3 v4 v5 v7 v8 v9 = some r) : WM X 10 82 [(0, vR (some b)), (3, vI v3), (4, vI v4), (5, vI v5), (7, vI v7), (8, vI v8), (9, vI v9)] [] 0 0 (ov b ρ μ) := by
  have h : (b0 ((v8 * v8) + (v9 * v9)) (fun x93 => RB_M_square_95 ρ k14 v3 v4 v5 x93 v7)) = some r := h
  refine wm_iload E dM_square_82 (j := 5) rfl ?_
  refine wm_iload E dM_square_84 (j := 5) rfl ?_
  refine wm_imul E dM_square_86 ?_
  refine wm_iload E dM_square_87 (j := 6) rfl ?_
  refine wm_iload E dM_square_89 (j := 6) rfl ?_
  refine wm_imul E dM_square_91 ?_
  refine wm_iadd E dM_square_92 ?_
  refine wm_letI h (fun x93 h => ?_)
  refine wm_istore (lv' := [(6, vI x93), (0, vR (some b)), (3, vI v3), (4, vI v4), (5, vI v5), (7, vI v7), (8, vI v8), (9, vI v9)]) E dM_square_93 (by decide) rfl ?_
  refine wm_pick (lv' := [(0, vR (some b)), (3, vI v3), (4, vI v4), (5, vI v5), (6, vI x93), (7, vI v7)]) [1, 2, 3, 4, 0, 5] rfl ?_
  exact rw_M_square_95 E hQ hR hI k14 hk14 v3 v4 v5 x93 v7 h
def RB_M_square_14 (ρ : RS)  : Nat → Int32 → Int32 → Int32 → Int32 → Int32 → Option Int32
  | 0, _, _, _, _, _ => none
  | n + 1, v3, v4, v5, v6, v7 => b1 (rgI ρ 6 90 v5) (fun x22 => if x22 ≤ v7 then some (v6) else b1 (rgI ρ 7 720 ((8 * v5) + v7)) (fun x38 => b0 (x38 - v3) (fun x41 => b1 (rgI ρ 8 720 ((8 * v5) + v7)) (fun x55 => b0 (x55 - v4) (fun x59 => if v7 = 0 then RB_M_square_82 ρ (fun v3 v4 v5 v6 v7 => RB_M_square_14 ρ n v3 v4 v5 v6 v7) v3 v4 v5 v7 x41 x59 else if v6 ≤ ((x41 * x41) + (x59 * x59)) then RB_M_square_95 ρ (fun v3 v4 v5 v6 v7 => RB_M_square_14 ρ n v3 v4 v5 v6 v7) v3 v4 v5 v6 v7 else RB_M_square_82 ρ (fun v3 v4 v5 v6 v7 => RB_M_square_14 ρ n v3 v4 v5 v6 v7) v3 v4 v5 v7 x41 x59)))))
set_option maxHeartbeats 4000000 in
set_option maxRecDepth 100000 in
theorem rw_M_square_14 {X : CX} (E : EV X prog_13_method_40_code 10 "PlaceFinderModel" (some .int)) {μ0 μ : Mem} {b : Nat} {r : Int32} {ρ : RS} (hQ : RQ X 0 0 μ0 (some (vI r)) (ov b ρ μ)) (hR : xR X = { frames := 1, cells := 0, slots := 0, locals := 24 }) (hI : X.2.2.2.2.2.2.2.2.2.2.2.1.name = "square")  (n : Nat) : ∀ (v3 : Int32) (v4 : Int32) (v5 : Int32) (v6 : Int32) (v7 : Int32) (h : RB_M_square_14 ρ  n v3 v4 v5 v6 v7 = some r), WM X 10 14 [(0, vR (some b)), (3, vI v3), (4, vI v4), (5, vI v5), (6, vI v6), (7, vI v7)] [] 0 0 (ov b ρ μ) := by
  induction n with
  | zero => intro v3 v4 v5 v6 v7 h; cases h
  | succ n ih =>
    intro v3 v4 v5 v6 v7 h
    have h : (b1 (rgI ρ 6 90 v5) (fun x22 => if x22 ≤ v7 then some (v6) else b1 (rgI ρ 7 720 ((8 * v5) + v7)) (fun x38 => b0 (x38 - v3) (fun x41 => b1 (rgI ρ 8 720 ((8 * v5) + v7)) (fun x55 => b0 (x55 - v4) (fun x59 => if v7 = 0 then RB_M_square_82 ρ (fun v3 v4 v5 v6 v7 => RB_M_square_14 ρ n v3 v4 v5 v6 v7) v3 v4 v5 v7 x41 x59 else if v6 ≤ ((x41 * x41) + (x59 * x59)) then RB_M_square_95 ρ (fun v3 v4 v5 v6 v7 => RB_M_square_14 ρ n v3 v4 v5 v6 v7) v3 v4 v5 v6 v7 else RB_M_square_82 ρ (fun v3 v4 v5 v6 v7 => RB_M_square_14 ρ n v3 v4 v5 v6 v7) v3 v4 v5 v7 x41 x59)))))) = some r := h
    refine wm_iload E dM_square_14 (j := 5) rfl ?_
    refine wm_aload_n E dM_square_16 rfl (j := 0) rfl ?_
    refine wm_rget (v := vR (some (b + 5))) E fd_M_22 rfl dM_square_17 ?_
    refine wm_iload E dM_square_20 (j := 3) rfl ?_
    refine wm_riald E (by decide) rfl rfl (by decide) (by decide) h dM_square_22 (fun x22 h => ?_)
    refine wm_icmp_ge (tgt := 101) E dM_square_23 (by decide) (fun c23 => ?_) (fun c23 => ?_)
    · have h := (if_pos c23).symm.trans h
      refine wm_iload E dM_square_101 (j := 4) rfl ?_
      exact wm_iret (rt := .int) E hQ (rqI0 h) rfl (by decide) (by decide) dM_square_103
    · have h := (if_neg c23).symm.trans h
      refine wm_aload_n E dM_square_26 rfl (j := 0) rfl ?_
      refine wm_rget (v := vR (some (b + 6))) E fd_M_25 rfl dM_square_27 ?_
      refine wm_bipush (x := 8) E dM_square_30 (by decide) ?_
      refine wm_iload E dM_square_32 (j := 3) rfl ?_
      refine wm_imul E dM_square_34 ?_
      refine wm_iload E dM_square_35 (j := 5) rfl ?_
      refine wm_iadd E dM_square_37 ?_
      refine wm_riald E (by decide) rfl rfl (by decide) (by decide) h dM_square_38 (fun x38 h => ?_)
      refine wm_iload_n E dM_square_39 rfl (j := 1) rfl ?_
      refine wm_isub E dM_square_40 ?_
      refine wm_letI h (fun x41 h => ?_)
      refine wm_istore (lv' := [(8, vI x41), (0, vR (some b)), (3, vI v3), (4, vI v4), (5, vI v5), (6, vI v6), (7, vI v7)]) E dM_square_41 (by decide) rfl ?_
      refine wm_aload_n E dM_square_43 rfl (j := 1) rfl ?_
      refine wm_rget (v := vR (some (b + 7))) E fd_M_28 rfl dM_square_44 ?_
      refine wm_bipush (x := 8) E dM_square_47 (by decide) ?_
      refine wm_iload E dM_square_49 (j := 4) rfl ?_
      refine wm_imul E dM_square_51 ?_
      refine wm_iload E dM_square_52 (j := 6) rfl ?_
      refine wm_iadd E dM_square_54 ?_
      refine wm_riald E (by decide) rfl rfl (by decide) (by decide) h dM_square_55 (fun x55 h => ?_)
      refine wm_iload E dM_square_56 (j := 3) rfl ?_
      refine wm_isub E dM_square_58 ?_
      refine wm_letI h (fun x59 h => ?_)
      refine wm_istore (lv' := [(9, vI x59), (8, vI x41), (0, vR (some b)), (3, vI v3), (4, vI v4), (5, vI v5), (6, vI v6), (7, vI v7)]) E dM_square_59 (by decide) rfl ?_
      refine wm_iload E dM_square_61 (j := 7) rfl ?_
      refine wm_if_eq (tgt := 82) E dM_square_63 (by decide) (fun c63 => ?_) (fun c63 => ?_)
      · have h := (if_pos c63).symm.trans h
        refine wm_pick (lv' := [(0, vR (some b)), (3, vI v3), (4, vI v4), (5, vI v5), (7, vI v7), (8, vI x41), (9, vI x59)]) [2, 3, 4, 5, 7, 1, 0] rfl ?_
        exact rw_M_square_82 E hQ hR hI (fun v3 v4 v5 v6 v7 => RB_M_square_14 ρ n v3 v4 v5 v6 v7) ih v3 v4 v5 v7 x41 x59 h
      · have h := (if_neg c63).symm.trans h
        refine wm_iload E dM_square_66 (j := 1) rfl ?_
        refine wm_iload E dM_square_68 (j := 1) rfl ?_
        refine wm_imul E dM_square_70 ?_
        refine wm_iload E dM_square_71 (j := 0) rfl ?_
        refine wm_iload E dM_square_73 (j := 0) rfl ?_
        refine wm_imul E dM_square_75 ?_
        refine wm_iadd E dM_square_76 ?_
        refine wm_iload E dM_square_77 (j := 6) rfl ?_
        refine wm_icmp_ge (tgt := 95) E dM_square_79 (by decide) (fun c79 => ?_) (fun c79 => ?_)
        · have h := (if_pos c79).symm.trans h
          refine wm_pick (lv' := [(0, vR (some b)), (3, vI v3), (4, vI v4), (5, vI v5), (6, vI v6), (7, vI v7)]) [2, 3, 4, 5, 6, 7] rfl ?_
          exact rw_M_square_95 E hQ hR hI (fun v3 v4 v5 v6 v7 => RB_M_square_14 ρ n v3 v4 v5 v6 v7) ih v3 v4 v5 v6 v7 h
        · have h := (if_neg c79).symm.trans h
          refine wm_pick (lv' := [(0, vR (some b)), (3, vI v3), (4, vI v4), (5, vI v5), (7, vI v7), (8, vI x41), (9, vI x59)]) [2, 3, 4, 5, 7, 1, 0] rfl ?_
          exact rw_M_square_82 E hQ hR hI (fun v3 v4 v5 v6 v7 => RB_M_square_14 ρ n v3 v4 v5 v6 v7) ih v3 v4 v5 v7 x41 x59 h
def R_M_square (v1 : Int32) (v2 : Int32) (v3 : Int32) (v4 : Int32) (ρ : RS) : Option Int32 := b1 (R_M_shapeOf v1 v2 (ρ)) (fun x3 => RB_M_square_14 ρ fu v3 v4 x3 0 0)
set_option maxHeartbeats 4000000 in
set_option maxRecDepth 100000 in
theorem RC_M_square (l : Launch) (G : GG) (b : Nat) (ρ : RS) (μ : Mem) (v1 : Int32) (v2 : Int32) (v3 : Int32) (v4 : Int32) (r : Int32) (h : R_M_square v1 v2 v3 v4 ρ = some r) : CT l G y_M_square prog_13_method_40_code 10 (some .int) 1 0 0 24 (ov b ρ μ) [vR (some b), vI v1, vI v2, vI v3, vI v4] (some (vI r)) (ov b ρ μ) := by
  refine wm_met (lv := [(0, vR (some b)), (1, vI v1), (2, vI v2), (3, vI v3), (4, vI v4)]) (by decide +kernel) (Nat.le_of_ble_eq_true rfl) rfl (fun X E hQ hR hI => ?_)
  have h : (b1 (R_M_shapeOf v1 v2 (ρ)) (fun x3 => RB_M_square_14 ρ fu v3 v4 x3 0 0)) = some r := h
  refine wm_aload_n E dM_square_0 rfl (j := 0) rfl ?_
  refine wm_iload_n E dM_square_1 rfl (j := 1) rfl ?_
  refine wm_iload_n E dM_square_2 rfl (j := 2) rfl ?_
  obtain ⟨x3, hc3, h⟩ := b1S h
  refine wm_cV (ci := 12) (As := [vI v1, vI v2]) (st := []) E lk_M_161 rfl im_M_shapeOf sl_M_shapeOf (ov_rc _ _ _) (RC_M_shapeOf (xl X) X.1 b (ρ) μ v1 v2 _ hc3) rfl rfl (by rw [hR]; decide) (by rw [hR]; decide) (Nat.le_of_ble_eq_true rfl) dM_square_3 ?_
  refine wm_istore (lv' := [(5, vI x3), (0, vR (some b)), (1, vI v1), (2, vI v2), (3, vI v3), (4, vI v4)]) E dM_square_6 (by decide) rfl ?_
  refine wm_iconst (x := 0) E dM_square_8 (by decide) ?_
  refine wm_istore (lv' := [(6, vI 0), (5, vI x3), (0, vR (some b)), (1, vI v1), (2, vI v2), (3, vI v3), (4, vI v4)]) E dM_square_9 (by decide) rfl ?_
  refine wm_iconst (x := 0) E dM_square_11 (by decide) ?_
  refine wm_istore (lv' := [(7, vI 0), (6, vI 0), (5, vI x3), (0, vR (some b)), (1, vI v1), (2, vI v2), (3, vI v3), (4, vI v4)]) E dM_square_12 (by decide) rfl ?_
  refine wm_pick (lv' := [(0, vR (some b)), (3, vI v3), (4, vI v4), (5, vI x3), (6, vI 0), (7, vI 0)]) [3, 6, 7, 2, 1, 0] rfl ?_
  exact rw_M_square_14 E hQ hR hI fu v3 v4 x3 0 0 h
def RB_M_compareFractions_109  (s0 : Int32) : Option Int32 := some (s0)
set_option maxHeartbeats 4000000 in
set_option maxRecDepth 100000 in
theorem rw_M_compareFractions_109 {X : CX} (E : EV X prog_13_method_41_code 21 "PlaceFinderModel" (some .int)) {μ0 μ : Mem} {r : Int32} (hQ : RQ X 0 0 μ0 (some (vI r)) μ) (hR : xR X = { frames := 0, cells := 0, slots := 0, locals := 0 }) (hI : X.2.2.2.2.2.2.2.2.2.2.2.1.name = "compareFractions")  (s0 : Int32) (h : RB_M_compareFractions_109  s0 = some r) : WM X 21 109 [] [vI s0] 0 0 μ := by
  have h : (some (s0)) = some r := h
  exact wm_iret (rt := .int) E hQ (rqI0 h) rfl (by decide) (by decide) dM_compareFractions_109
def RB_M_compareFractions_82  (v16 : Int32) (v17 : Int64) (v19 : Int64) : Option Int32 := if (lg_cmp v17 v19) = 0 then RB_M_compareFractions_109 0 else if (lg_cmp v17 0) = 0 then RB_M_compareFractions_109 (-v16) else RB_M_compareFractions_109 v16
set_option maxHeartbeats 4000000 in
set_option maxRecDepth 100000 in
theorem rw_M_compareFractions_82 {X : CX} (E : EV X prog_13_method_41_code 21 "PlaceFinderModel" (some .int)) {μ0 μ : Mem} {r : Int32} (hQ : RQ X 0 0 μ0 (some (vI r)) μ) (hR : xR X = { frames := 0, cells := 0, slots := 0, locals := 0 }) (hI : X.2.2.2.2.2.2.2.2.2.2.2.1.name = "compareFractions")  (v16 : Int32) (v17 : Int64) (v19 : Int64) (h : RB_M_compareFractions_82  v16 v17 v19 = some r) : WM X 21 82 [(16, vI v16), (17, vL v17), (19, vL v19)] [] 0 0 μ := by
  have h : (if (lg_cmp v17 v19) = 0 then RB_M_compareFractions_109 0 else if (lg_cmp v17 0) = 0 then RB_M_compareFractions_109 (-v16) else RB_M_compareFractions_109 v16) = some r := h
  refine wm_lload E dM_compareFractions_82 (j := 1) rfl ?_
  refine wm_lload E dM_compareFractions_84 (j := 2) rfl ?_
  refine wm_lcmp E dM_compareFractions_86 ?_
  refine wm_if_ne (tgt := 94) E dM_compareFractions_87 (by decide) (fun c87 => ?_) (fun c87 => ?_)
  · have h := (if_neg c87).symm.trans h
    refine wm_lload E dM_compareFractions_94 (j := 1) rfl ?_
    refine wm_lconst (x := 0) E dM_compareFractions_96 (by decide) ?_
    refine wm_lcmp E dM_compareFractions_97 ?_
    refine wm_if_ne (tgt := 107) E dM_compareFractions_98 (by decide) (fun c98 => ?_) (fun c98 => ?_)
    · have h := (if_neg c98).symm.trans h
      refine wm_iload E dM_compareFractions_107 (j := 0) rfl ?_
      refine wm_pick (lv' := []) [] rfl ?_
      exact rw_M_compareFractions_109 E hQ hR hI v16 h
    · have h := (if_pos c98).symm.trans h
      refine wm_iload E dM_compareFractions_101 (j := 0) rfl ?_
      refine wm_ineg E dM_compareFractions_103 ?_
      refine wm_goto (tgt := 109) E dM_compareFractions_104 (by decide) ?_
      refine wm_pick (lv' := []) [] rfl ?_
      exact rw_M_compareFractions_109 E hQ hR hI (-v16) h
  · have h := (if_pos c87).symm.trans h
    refine wm_iconst (x := 0) E dM_compareFractions_90 (by decide) ?_
    refine wm_goto (tgt := 109) E dM_compareFractions_91 (by decide) ?_
    refine wm_pick (lv' := []) [] rfl ?_
    exact rw_M_compareFractions_109 E hQ hR hI 0 h
def RB_M_compareFractions_53  (s0 : Int32) : Option Int32 := some (s0)
set_option maxHeartbeats 4000000 in
set_option maxRecDepth 100000 in
theorem rw_M_compareFractions_53 {X : CX} (E : EV X prog_13_method_41_code 21 "PlaceFinderModel" (some .int)) {μ0 μ : Mem} {r : Int32} (hQ : RQ X 0 0 μ0 (some (vI r)) μ) (hR : xR X = { frames := 0, cells := 0, slots := 0, locals := 0 }) (hI : X.2.2.2.2.2.2.2.2.2.2.2.1.name = "compareFractions")  (s0 : Int32) (h : RB_M_compareFractions_53  s0 = some r) : WM X 21 53 [] [vI s0] 0 0 μ := by
  have h : (some (s0)) = some r := h
  exact wm_iret (rt := .int) E hQ (rqI0 h) rfl (by decide) (by decide) dM_compareFractions_53
def RB_M_compareFractions_17  : Nat → Int64 → Int64 → Int64 → Int64 → Int32 → Option Int32
  | 0, _, _, _, _, _ => none
  | n + 1, v8, v10, v12, v14, v16 => gd (v10 = 0) (gd (v14 = 0) (if (lg_cmp (v8 / v10) (v12 / v14)) = 0 then gd (v10 = 0) (b0 (v8 - v8 / v10 * v10) (fun x59 => gd (v14 = 0) (b0 (v12 - v12 / v14 * v14) (fun x66 => if (lg_cmp x59 0) = 0 then RB_M_compareFractions_82 v16 x59 x66 else if (lg_cmp x66 0) = 0 then RB_M_compareFractions_82 v16 x59 x66 else b0 (-v16) (fun x129 => (fun v8 v10 v12 v14 v16 => RB_M_compareFractions_17 n v8 v10 v12 v14 v16) v10 x59 v14 x66 x129))))) else gd (v10 = 0) (gd (v14 = 0) (if 0 ≤ (lg_cmp (v8 / v10) (v12 / v14)) then RB_M_compareFractions_53 v16 else RB_M_compareFractions_53 (-v16)))))
set_option maxHeartbeats 4000000 in
set_option maxRecDepth 100000 in
theorem rw_M_compareFractions_17 {X : CX} (E : EV X prog_13_method_41_code 21 "PlaceFinderModel" (some .int)) {μ0 μ : Mem} {r : Int32} (hQ : RQ X 0 0 μ0 (some (vI r)) μ) (hR : xR X = { frames := 0, cells := 0, slots := 0, locals := 0 }) (hI : X.2.2.2.2.2.2.2.2.2.2.2.1.name = "compareFractions")  (n : Nat) : ∀ (v8 : Int64) (v10 : Int64) (v12 : Int64) (v14 : Int64) (v16 : Int32) (h : RB_M_compareFractions_17  n v8 v10 v12 v14 v16 = some r), WM X 21 17 [(8, vL v8), (10, vL v10), (12, vL v12), (14, vL v14), (16, vI v16)] [] 0 0 μ := by
  induction n with
  | zero => intro v8 v10 v12 v14 v16 h; cases h
  | succ n ih =>
    intro v8 v10 v12 v14 v16 h
    have h : (gd (v10 = 0) (gd (v14 = 0) (if (lg_cmp (v8 / v10) (v12 / v14)) = 0 then gd (v10 = 0) (b0 (v8 - v8 / v10 * v10) (fun x59 => gd (v14 = 0) (b0 (v12 - v12 / v14 * v14) (fun x66 => if (lg_cmp x59 0) = 0 then RB_M_compareFractions_82 v16 x59 x66 else if (lg_cmp x66 0) = 0 then RB_M_compareFractions_82 v16 x59 x66 else b0 (-v16) (fun x129 => (fun v8 v10 v12 v14 v16 => RB_M_compareFractions_17 n v8 v10 v12 v14 v16) v10 x59 v14 x66 x129))))) else gd (v10 = 0) (gd (v14 = 0) (if 0 ≤ (lg_cmp (v8 / v10) (v12 / v14)) then RB_M_compareFractions_53 v16 else RB_M_compareFractions_53 (-v16)))))) = some r := h
    refine wm_lload E dM_compareFractions_17 (j := 0) rfl ?_
    refine wm_lload E dM_compareFractions_19 (j := 1) rfl ?_
    obtain ⟨hz21, h⟩ := gdS h
    refine wm_ldiv E dM_compareFractions_21 hz21 ?_
    refine wm_lload E dM_compareFractions_22 (j := 2) rfl ?_
    refine wm_lload E dM_compareFractions_24 (j := 3) rfl ?_
    obtain ⟨hz26, h⟩ := gdS h
    refine wm_ldiv E dM_compareFractions_26 hz26 ?_
    refine wm_lcmp E dM_compareFractions_27 ?_
    refine wm_if_eq (tgt := 54) E dM_compareFractions_28 (by decide) (fun c28 => ?_) (fun c28 => ?_)
    · have h := (if_pos c28).symm.trans h
      refine wm_lload E dM_compareFractions_54 (j := 0) rfl ?_
      refine wm_lload E dM_compareFractions_56 (j := 1) rfl ?_
      obtain ⟨hz58, h⟩ := gdS h
      refine wm_lrem E dM_compareFractions_58 hz58 ?_
      refine wm_letJ h (fun x59 h => ?_)
      refine wm_lstore (lv' := [(17, vL x59), (8, vL v8), (10, vL v10), (12, vL v12), (14, vL v14), (16, vI v16)]) E dM_compareFractions_59 (by decide) rfl ?_
      refine wm_lload E dM_compareFractions_61 (j := 3) rfl ?_
      refine wm_lload E dM_compareFractions_63 (j := 4) rfl ?_
      obtain ⟨hz65, h⟩ := gdS h
      refine wm_lrem E dM_compareFractions_65 hz65 ?_
      refine wm_letJ h (fun x66 h => ?_)
      refine wm_lstore (lv' := [(19, vL x66), (17, vL x59), (8, vL v8), (10, vL v10), (12, vL v12), (14, vL v14), (16, vI v16)]) E dM_compareFractions_66 (by decide) rfl ?_
      refine wm_lload E dM_compareFractions_68 (j := 1) rfl ?_
      refine wm_lconst (x := 0) E dM_compareFractions_70 (by decide) ?_
      refine wm_lcmp E dM_compareFractions_71 ?_
      refine wm_if_eq (tgt := 82) E dM_compareFractions_72 (by decide) (fun c72 => ?_) (fun c72 => ?_)
      · have h := (if_pos c72).symm.trans h
        refine wm_pick (lv' := [(16, vI v16), (17, vL x59), (19, vL x66)]) [6, 1, 0] rfl ?_
        exact rw_M_compareFractions_82 E hQ hR hI v16 x59 x66 h
      · have h := (if_neg c72).symm.trans h
        refine wm_lload E dM_compareFractions_75 (j := 0) rfl ?_
        refine wm_lconst (x := 0) E dM_compareFractions_77 (by decide) ?_
        refine wm_lcmp E dM_compareFractions_78 ?_
        refine wm_if_ne (tgt := 110) E dM_compareFractions_79 (by decide) (fun c79 => ?_) (fun c79 => ?_)
        · have h := (if_neg c79).symm.trans h
          refine wm_lload E dM_compareFractions_110 (j := 3) rfl ?_
          refine wm_lstore (lv' := [(8, vL v10), (19, vL x66), (17, vL x59), (10, vL v10), (12, vL v12), (14, vL v14), (16, vI v16)]) E dM_compareFractions_112 (by decide) rfl ?_
          refine wm_lload E dM_compareFractions_114 (j := 2) rfl ?_
          refine wm_lstore (lv' := [(10, vL x59), (8, vL v10), (19, vL x66), (17, vL x59), (12, vL v12), (14, vL v14), (16, vI v16)]) E dM_compareFractions_116 (by decide) rfl ?_
          refine wm_lload E dM_compareFractions_118 (j := 5) rfl ?_
          refine wm_lstore (lv' := [(12, vL v14), (10, vL x59), (8, vL v10), (19, vL x66), (17, vL x59), (14, vL v14), (16, vI v16)]) E dM_compareFractions_120 (by decide) rfl ?_
          refine wm_lload E dM_compareFractions_122 (j := 3) rfl ?_
          refine wm_lstore (lv' := [(14, vL x66), (12, vL v14), (10, vL x59), (8, vL v10), (19, vL x66), (17, vL x59), (16, vI v16)]) E dM_compareFractions_124 (by decide) rfl ?_
          refine wm_iload E dM_compareFractions_126 (j := 6) rfl ?_
          refine wm_ineg E dM_compareFractions_128 ?_
          refine wm_letI h (fun x129 h => ?_)
          refine wm_istore (lv' := [(16, vI x129), (14, vL x66), (12, vL v14), (10, vL x59), (8, vL v10), (19, vL x66), (17, vL x59)]) E dM_compareFractions_129 (by decide) rfl ?_
          refine wm_goto (tgt := 17) E dM_compareFractions_131 (by decide) ?_
          refine wm_pick (lv' := [(8, vL v10), (10, vL x59), (12, vL v14), (14, vL x66), (16, vI x129)]) [4, 3, 2, 1, 0] rfl ?_
          exact ih v10 x59 v14 x66 x129 h
        · have h := (if_pos c79).symm.trans h
          refine wm_pick (lv' := [(16, vI v16), (17, vL x59), (19, vL x66)]) [6, 1, 0] rfl ?_
          exact rw_M_compareFractions_82 E hQ hR hI v16 x59 x66 h
    · have h := (if_neg c28).symm.trans h
      refine wm_lload E dM_compareFractions_31 (j := 0) rfl ?_
      refine wm_lload E dM_compareFractions_33 (j := 1) rfl ?_
      obtain ⟨hz35, h⟩ := gdS h
      refine wm_ldiv E dM_compareFractions_35 hz35 ?_
      refine wm_lload E dM_compareFractions_36 (j := 2) rfl ?_
      refine wm_lload E dM_compareFractions_38 (j := 3) rfl ?_
      obtain ⟨hz40, h⟩ := gdS h
      refine wm_ldiv E dM_compareFractions_40 hz40 ?_
      refine wm_lcmp E dM_compareFractions_41 ?_
      refine wm_if_ge (tgt := 51) E dM_compareFractions_42 (by decide) (fun c42 => ?_) (fun c42 => ?_)
      · have h := (if_pos c42).symm.trans h
        refine wm_iload E dM_compareFractions_51 (j := 4) rfl ?_
        refine wm_pick (lv' := []) [] rfl ?_
        exact rw_M_compareFractions_53 E hQ hR hI v16 h
      · have h := (if_neg c42).symm.trans h
        refine wm_iload E dM_compareFractions_45 (j := 4) rfl ?_
        refine wm_ineg E dM_compareFractions_47 ?_
        refine wm_goto (tgt := 53) E dM_compareFractions_48 (by decide) ?_
        refine wm_pick (lv' := []) [] rfl ?_
        exact rw_M_compareFractions_53 E hQ hR hI (-v16) h
def R_M_compareFractions (v0 : Int64) (v2 : Int64) (v4 : Int64) (v6 : Int64) : Option Int32 := RB_M_compareFractions_17 fu v0 v2 v4 v6 1
set_option maxHeartbeats 4000000 in
set_option maxRecDepth 100000 in
theorem RC_M_compareFractions (l : Launch) (G : GG) (v0 : Int64) (v2 : Int64) (v4 : Int64) (v6 : Int64) (μ : Mem) (r : Int32) (h : R_M_compareFractions v0 v2 v4 v6 = some r) : CT l G y_M_compareFractions prog_13_method_41_code 21 (some .int) 0 0 0 0 μ [vL v0, vL v2, vL v4, vL v6] (some (vI r)) μ := by
  refine wm_met (lv := [(0, vL v0), (2, vL v2), (4, vL v4), (6, vL v6)]) (by decide +kernel) (Nat.le_of_ble_eq_true rfl) rfl (fun X E hQ hR hI => ?_)
  have h : (RB_M_compareFractions_17 fu v0 v2 v4 v6 1) = some r := h
  refine wm_lload_n E dM_compareFractions_0 rfl (j := 0) rfl ?_
  refine wm_lstore (lv' := [(8, vL v0), (0, vL v0), (2, vL v2), (4, vL v4), (6, vL v6)]) E dM_compareFractions_1 (by decide) rfl ?_
  refine wm_lload_n E dM_compareFractions_3 rfl (j := 2) rfl ?_
  refine wm_lstore (lv' := [(10, vL v2), (8, vL v0), (0, vL v0), (2, vL v2), (4, vL v4), (6, vL v6)]) E dM_compareFractions_4 (by decide) rfl ?_
  refine wm_lload E dM_compareFractions_6 (j := 4) rfl ?_
  refine wm_lstore (lv' := [(12, vL v4), (10, vL v2), (8, vL v0), (0, vL v0), (2, vL v2), (4, vL v4), (6, vL v6)]) E dM_compareFractions_8 (by decide) rfl ?_
  refine wm_lload E dM_compareFractions_10 (j := 6) rfl ?_
  refine wm_lstore (lv' := [(14, vL v6), (12, vL v4), (10, vL v2), (8, vL v0), (0, vL v0), (2, vL v2), (4, vL v4), (6, vL v6)]) E dM_compareFractions_12 (by decide) rfl ?_
  refine wm_iconst (x := 1) E dM_compareFractions_14 (by decide) ?_
  refine wm_istore (lv' := [(16, vI 1), (14, vL v6), (12, vL v4), (10, vL v2), (8, vL v0), (0, vL v0), (2, vL v2), (4, vL v4), (6, vL v6)]) E dM_compareFractions_15 (by decide) rfl ?_
  refine wm_pick (lv' := [(8, vL v0), (10, vL v2), (12, vL v4), (14, vL v6), (16, vI 1)]) [4, 3, 2, 1, 0] rfl ?_
  exact rw_M_compareFractions_17 E hQ hR hI fu v0 v2 v4 v6 1 h
def RB_M_measure_202   (ρ : RS) : Option (Unit × RS) := some ((), ρ)
set_option maxHeartbeats 4000000 in
set_option maxRecDepth 100000 in
theorem rw_M_measure_202 {X : CX} (E : EV X prog_13_method_42_code 17 "PlaceFinderModel" none) {μ0 μ : Mem} {b : Nat} {r : Unit} {ρ' : RS} (hQ : RQ X 0 0 μ0 none (ov b ρ' μ)) (hR : xR X = { frames := 0, cells := 0, slots := 0, locals := 0 }) (hI : X.2.2.2.2.2.2.2.2.2.2.2.1.name = "measure") (hW : mW μ ≤ b)   (ρ : RS) (h : RB_M_measure_202  ρ = some (r, ρ')) : WM X 17 202 [] [] 0 0 (ov b ρ μ) := by
  have h : (some ((), ρ)) = some (r, ρ') := h
  exact wm_vret E hQ rfl (rrM h) (by decide) (by decide) dM_measure_202
def RB_M_measure_81  (v1 : Int32) (v2 : Int32) (v5 : Int32) (v6 : Int32) (ρ : RS) : Option (Unit × RS) := b0 (rpL ρ 41 ((((v5 - v1 : Int32).toInt64) * ((v5 - v1 : Int32).toInt64)) + (((v6 - v2 : Int32).toInt64) * ((v6 - v2 : Int32).toInt64)))) (fun ρ105 => b0 (rpL ρ105 43 0) (fun ρ110 => RB_M_measure_202 (ρ110)))
set_option maxHeartbeats 4000000 in
set_option maxRecDepth 100000 in
theorem rw_M_measure_81 {X : CX} (E : EV X prog_13_method_42_code 17 "PlaceFinderModel" none) {μ0 μ : Mem} {b : Nat} {r : Unit} {ρ' : RS} (hQ : RQ X 0 0 μ0 none (ov b ρ' μ)) (hR : xR X = { frames := 0, cells := 0, slots := 0, locals := 0 }) (hI : X.2.2.2.2.2.2.2.2.2.2.2.1.name = "measure") (hW : mW μ ≤ b)  (v1 : Int32) (v2 : Int32) (v5 : Int32) (v6 : Int32) (ρ : RS) (h : RB_M_measure_81  v1 v2 v5 v6 ρ = some (r, ρ')) : WM X 17 81 [(0, vR (some b)), (1, vI v1), (2, vI v2), (5, vI v5), (6, vI v6)] [] 0 0 (ov b ρ μ) := by
  have h : (b0 (rpL ρ 41 ((((v5 - v1 : Int32).toInt64) * ((v5 - v1 : Int32).toInt64)) + (((v6 - v2 : Int32).toInt64) * ((v6 - v2 : Int32).toInt64)))) (fun ρ105 => b0 (rpL ρ105 43 0) (fun ρ110 => RB_M_measure_202 (ρ110)))) = some (r, ρ') := h
  refine wm_aload_n E dM_measure_81 rfl (j := 0) rfl ?_
  refine wm_iload E dM_measure_82 (j := 3) rfl ?_
  refine wm_iload_n E dM_measure_84 rfl (j := 1) rfl ?_
  refine wm_isub E dM_measure_85 ?_
  refine wm_i2l E dM_measure_86 ?_
  refine wm_iload E dM_measure_87 (j := 3) rfl ?_
  refine wm_iload_n E dM_measure_89 rfl (j := 1) rfl ?_
  refine wm_isub E dM_measure_90 ?_
  refine wm_i2l E dM_measure_91 ?_
  refine wm_lmul E dM_measure_92 ?_
  refine wm_iload E dM_measure_93 (j := 4) rfl ?_
  refine wm_iload_n E dM_measure_95 rfl (j := 2) rfl ?_
  refine wm_isub E dM_measure_96 ?_
  refine wm_i2l E dM_measure_97 ?_
  refine wm_iload E dM_measure_98 (j := 4) rfl ?_
  refine wm_iload_n E dM_measure_100 rfl (j := 2) rfl ?_
  refine wm_isub E dM_measure_101 ?_
  refine wm_i2l E dM_measure_102 ?_
  refine wm_lmul E dM_measure_103 ?_
  refine wm_ladd E dM_measure_104 ?_
  refine wm_rpL E fp_M_225 (fun q => by cases q) rfl (by decide) hW dM_measure_105 ?_
  refine wm_rlet h (fun ρ105 h => ?_)
  refine wm_aload_n E dM_measure_108 rfl (j := 0) rfl ?_
  refine wm_lconst (x := 0) E dM_measure_109 (by decide) ?_
  refine wm_rpL E fp_M_228 (fun q => by cases q) rfl (by decide) hW dM_measure_110 ?_
  refine wm_rlet h (fun ρ110 h => ?_)
  refine wm_goto (tgt := 202) E dM_measure_113 (by decide) ?_
  refine wm_pick (lv' := []) [] rfl ?_
  exact rw_M_measure_202 E hQ hR hI hW (ρ110) h
def RB_M_measure_59  (v1 : Int32) (v2 : Int32) (v3 : Int32) (v4 : Int32) (v5 : Int32) (v6 : Int32) (v7 : Int64) (v9 : Int64) (v11 : Int64) (v13 : Int64) (s1 : Int64) (ρ : RS) : Option (Unit × RS) := b0 (rpL ρ 44 s1) (fun ρ59 => b0 (rpL ρ59 42 1) (fun ρ64 => if (lg_cmp v13 0) ≤ 0 then RB_M_measure_81 v1 v2 v5 v6 (ρ64) else if (lg_cmp v11 0) = 0 then RB_M_measure_81 v1 v2 v5 v6 (ρ64) else if (lg_cmp v13 v11) < 0 then b0 ((v7 * ((v6 - v2 : Int32).toInt64)) - (v9 * ((v5 - v1 : Int32).toInt64))) (fun x179 => b0 (rpL ρ64 41 (x179 * x179)) (fun ρ187 => b0 (rpL ρ187 42 v11) (fun ρ193 => b0 (rpL ρ193 43 v13) (fun ρ199 => RB_M_measure_202 (ρ199))))) else b0 (rpL ρ64 41 ((((v5 - v3 : Int32).toInt64) * ((v5 - v3 : Int32).toInt64)) + (((v6 - v4 : Int32).toInt64) * ((v6 - v4 : Int32).toInt64)))) (fun ρ150 => b0 (rpL ρ150 43 v11) (fun ρ156 => RB_M_measure_202 (ρ156)))))
set_option maxHeartbeats 4000000 in
set_option maxRecDepth 100000 in
theorem rw_M_measure_59 {X : CX} (E : EV X prog_13_method_42_code 17 "PlaceFinderModel" none) {μ0 μ : Mem} {b : Nat} {r : Unit} {ρ' : RS} (hQ : RQ X 0 0 μ0 none (ov b ρ' μ)) (hR : xR X = { frames := 0, cells := 0, slots := 0, locals := 0 }) (hI : X.2.2.2.2.2.2.2.2.2.2.2.1.name = "measure") (hW : mW μ ≤ b)  (v1 : Int32) (v2 : Int32) (v3 : Int32) (v4 : Int32) (v5 : Int32) (v6 : Int32) (v7 : Int64) (v9 : Int64) (v11 : Int64) (v13 : Int64) (s1 : Int64) (ρ : RS) (h : RB_M_measure_59  v1 v2 v3 v4 v5 v6 v7 v9 v11 v13 s1 ρ = some (r, ρ')) : WM X 17 59 [(0, vR (some b)), (1, vI v1), (2, vI v2), (3, vI v3), (4, vI v4), (5, vI v5), (6, vI v6), (7, vL v7), (9, vL v9), (11, vL v11), (13, vL v13)] [vL s1, vR (some b)] 0 0 (ov b ρ μ) := by
  have h : (b0 (rpL ρ 44 s1) (fun ρ59 => b0 (rpL ρ59 42 1) (fun ρ64 => if (lg_cmp v13 0) ≤ 0 then RB_M_measure_81 v1 v2 v5 v6 (ρ64) else if (lg_cmp v11 0) = 0 then RB_M_measure_81 v1 v2 v5 v6 (ρ64) else if (lg_cmp v13 v11) < 0 then b0 ((v7 * ((v6 - v2 : Int32).toInt64)) - (v9 * ((v5 - v1 : Int32).toInt64))) (fun x179 => b0 (rpL ρ64 41 (x179 * x179)) (fun ρ187 => b0 (rpL ρ187 42 v11) (fun ρ193 => b0 (rpL ρ193 43 v13) (fun ρ199 => RB_M_measure_202 (ρ199))))) else b0 (rpL ρ64 41 ((((v5 - v3 : Int32).toInt64) * ((v5 - v3 : Int32).toInt64)) + (((v6 - v4 : Int32).toInt64) * ((v6 - v4 : Int32).toInt64)))) (fun ρ150 => b0 (rpL ρ150 43 v11) (fun ρ156 => RB_M_measure_202 (ρ156)))))) = some (r, ρ') := h
  refine wm_rpL E fp_M_218 (fun q => by cases q) rfl (by decide) hW dM_measure_59 ?_
  refine wm_rlet h (fun ρ59 h => ?_)
  refine wm_aload_n E dM_measure_62 rfl (j := 0) rfl ?_
  refine wm_lconst (x := 1) E dM_measure_63 (by decide) ?_
  refine wm_rpL E fp_M_222 (fun q => by cases q) rfl (by decide) hW dM_measure_64 ?_
  refine wm_rlet h (fun ρ64 h => ?_)
  refine wm_lload E dM_measure_67 (j := 10) rfl ?_
  refine wm_lconst (x := 0) E dM_measure_69 (by decide) ?_
  refine wm_lcmp E dM_measure_70 ?_
  refine wm_if_le (tgt := 81) E dM_measure_71 (by decide) (fun c71 => ?_) (fun c71 => ?_)
  · have h := (if_pos c71).symm.trans h
    refine wm_pick (lv' := [(0, vR (some b)), (1, vI v1), (2, vI v2), (5, vI v5), (6, vI v6)]) [0, 1, 2, 5, 6] rfl ?_
    exact rw_M_measure_81 E hQ hR hI hW v1 v2 v5 v6 (ρ64) h
  · have h := (if_neg c71).symm.trans h
    refine wm_lload E dM_measure_74 (j := 9) rfl ?_
    refine wm_lconst (x := 0) E dM_measure_76 (by decide) ?_
    refine wm_lcmp E dM_measure_77 ?_
    refine wm_if_ne (tgt := 116) E dM_measure_78 (by decide) (fun c78 => ?_) (fun c78 => ?_)
    · have h := (if_neg c78).symm.trans h
      refine wm_lload E dM_measure_116 (j := 10) rfl ?_
      refine wm_lload E dM_measure_118 (j := 9) rfl ?_
      refine wm_lcmp E dM_measure_120 ?_
      refine wm_if_lt (tgt := 162) E dM_measure_121 (by decide) (fun c121 => ?_) (fun c121 => ?_)
      · have h := (if_pos c121).symm.trans h
        refine wm_lload E dM_measure_162 (j := 7) rfl ?_
        refine wm_iload E dM_measure_164 (j := 6) rfl ?_
        refine wm_iload_n E dM_measure_166 rfl (j := 2) rfl ?_
        refine wm_isub E dM_measure_167 ?_
        refine wm_i2l E dM_measure_168 ?_
        refine wm_lmul E dM_measure_169 ?_
        refine wm_lload E dM_measure_170 (j := 8) rfl ?_
        refine wm_iload E dM_measure_172 (j := 5) rfl ?_
        refine wm_iload_n E dM_measure_174 rfl (j := 1) rfl ?_
        refine wm_isub E dM_measure_175 ?_
        refine wm_i2l E dM_measure_176 ?_
        refine wm_lmul E dM_measure_177 ?_
        refine wm_lsub E dM_measure_178 ?_
        refine wm_letJ h (fun x179 h => ?_)
        refine wm_lstore (lv' := [(15, vL x179), (0, vR (some b)), (1, vI v1), (2, vI v2), (3, vI v3), (4, vI v4), (5, vI v5), (6, vI v6), (7, vL v7), (9, vL v9), (11, vL v11), (13, vL v13)]) E dM_measure_179 (by decide) rfl ?_
        refine wm_aload_n E dM_measure_181 rfl (j := 1) rfl ?_
        refine wm_lload E dM_measure_182 (j := 0) rfl ?_
        refine wm_lload E dM_measure_184 (j := 0) rfl ?_
        refine wm_lmul E dM_measure_186 ?_
        refine wm_rpL E fp_M_225 (fun q => by cases q) rfl (by decide) hW dM_measure_187 ?_
        refine wm_rlet h (fun ρ187 h => ?_)
        refine wm_aload_n E dM_measure_190 rfl (j := 1) rfl ?_
        refine wm_lload E dM_measure_191 (j := 10) rfl ?_
        refine wm_rpL E fp_M_222 (fun q => by cases q) rfl (by decide) hW dM_measure_193 ?_
        refine wm_rlet h (fun ρ193 h => ?_)
        refine wm_aload_n E dM_measure_196 rfl (j := 1) rfl ?_
        refine wm_lload E dM_measure_197 (j := 11) rfl ?_
        refine wm_rpL E fp_M_228 (fun q => by cases q) rfl (by decide) hW dM_measure_199 ?_
        refine wm_rlet h (fun ρ199 h => ?_)
        refine wm_pick (lv' := []) [] rfl ?_
        exact rw_M_measure_202 E hQ hR hI hW (ρ199) h
      · have h := (if_neg c121).symm.trans h
        refine wm_aload_n E dM_measure_124 rfl (j := 0) rfl ?_
        refine wm_iload E dM_measure_125 (j := 5) rfl ?_
        refine wm_iload_n E dM_measure_127 rfl (j := 3) rfl ?_
        refine wm_isub E dM_measure_128 ?_
        refine wm_i2l E dM_measure_129 ?_
        refine wm_iload E dM_measure_130 (j := 5) rfl ?_
        refine wm_iload_n E dM_measure_132 rfl (j := 3) rfl ?_
        refine wm_isub E dM_measure_133 ?_
        refine wm_i2l E dM_measure_134 ?_
        refine wm_lmul E dM_measure_135 ?_
        refine wm_iload E dM_measure_136 (j := 6) rfl ?_
        refine wm_iload E dM_measure_138 (j := 4) rfl ?_
        refine wm_isub E dM_measure_140 ?_
        refine wm_i2l E dM_measure_141 ?_
        refine wm_iload E dM_measure_142 (j := 6) rfl ?_
        refine wm_iload E dM_measure_144 (j := 4) rfl ?_
        refine wm_isub E dM_measure_146 ?_
        refine wm_i2l E dM_measure_147 ?_
        refine wm_lmul E dM_measure_148 ?_
        refine wm_ladd E dM_measure_149 ?_
        refine wm_rpL E fp_M_225 (fun q => by cases q) rfl (by decide) hW dM_measure_150 ?_
        refine wm_rlet h (fun ρ150 h => ?_)
        refine wm_aload_n E dM_measure_153 rfl (j := 0) rfl ?_
        refine wm_lload E dM_measure_154 (j := 9) rfl ?_
        refine wm_rpL E fp_M_228 (fun q => by cases q) rfl (by decide) hW dM_measure_156 ?_
        refine wm_rlet h (fun ρ156 h => ?_)
        refine wm_goto (tgt := 202) E dM_measure_159 (by decide) ?_
        refine wm_pick (lv' := []) [] rfl ?_
        exact rw_M_measure_202 E hQ hR hI hW (ρ156) h
    · have h := (if_pos c78).symm.trans h
      refine wm_pick (lv' := [(0, vR (some b)), (1, vI v1), (2, vI v2), (5, vI v5), (6, vI v6)]) [0, 1, 2, 5, 6] rfl ?_
      exact rw_M_measure_81 E hQ hR hI hW v1 v2 v5 v6 (ρ64) h
def R_M_measure (v1 : Int32) (v2 : Int32) (v3 : Int32) (v4 : Int32) (v5 : Int32) (v6 : Int32) (ρ : RS) : Option (Unit × RS) := b0 ((v3 - v1 : Int32).toInt64) (fun x4 => b0 ((v4 - v2 : Int32).toInt64) (fun x11 => b0 ((x4 * x4) + (x11 * x11)) (fun x24 => b0 ((x4 * ((v5 - v1 : Int32).toInt64)) + (x11 * ((v6 - v2 : Int32).toInt64))) (fun x43 => if (lg_cmp x24 0) = 0 then RB_M_measure_59 v1 v2 v3 v4 v5 v6 x4 x11 x24 x43 1 (ρ) else RB_M_measure_59 v1 v2 v3 v4 v5 v6 x4 x11 x24 x43 x24 (ρ)))))
set_option maxHeartbeats 4000000 in
set_option maxRecDepth 100000 in
theorem RC_M_measure (l : Launch) (G : GG) (b : Nat) (ρ : RS) (μ : Mem) (hW : mW μ ≤ b) (v1 : Int32) (v2 : Int32) (v3 : Int32) (v4 : Int32) (v5 : Int32) (v6 : Int32) (r : Unit) (ρ' : RS) (h : R_M_measure v1 v2 v3 v4 v5 v6 ρ = some (r, ρ')) : CT l G y_M_measure prog_13_method_42_code 17 none 0 0 0 0 (ov b ρ μ) [vR (some b), vI v1, vI v2, vI v3, vI v4, vI v5, vI v6] none (ov b ρ' μ) := by
  refine wm_met (lv := [(0, vR (some b)), (1, vI v1), (2, vI v2), (3, vI v3), (4, vI v4), (5, vI v5), (6, vI v6)]) (by decide +kernel) (Nat.le_of_ble_eq_true rfl) rfl (fun X E hQ hR hI => ?_)
  have h : (b0 ((v3 - v1 : Int32).toInt64) (fun x4 => b0 ((v4 - v2 : Int32).toInt64) (fun x11 => b0 ((x4 * x4) + (x11 * x11)) (fun x24 => b0 ((x4 * ((v5 - v1 : Int32).toInt64)) + (x11 * ((v6 - v2 : Int32).toInt64))) (fun x43 => if (lg_cmp x24 0) = 0 then RB_M_measure_59 v1 v2 v3 v4 v5 v6 x4 x11 x24 x43 1 (ρ) else RB_M_measure_59 v1 v2 v3 v4 v5 v6 x4 x11 x24 x43 x24 (ρ)))))) = some (r, ρ') := h
  refine wm_iload_n E dM_measure_0 rfl (j := 3) rfl ?_
  refine wm_iload_n E dM_measure_1 rfl (j := 1) rfl ?_
  refine wm_isub E dM_measure_2 ?_
  refine wm_i2l E dM_measure_3 ?_
  refine wm_letJ h (fun x4 h => ?_)
  refine wm_lstore (lv' := [(7, vL x4), (0, vR (some b)), (1, vI v1), (2, vI v2), (3, vI v3), (4, vI v4), (5, vI v5), (6, vI v6)]) E dM_measure_4 (by decide) rfl ?_
  refine wm_iload E dM_measure_6 (j := 5) rfl ?_
  refine wm_iload_n E dM_measure_8 rfl (j := 3) rfl ?_
  refine wm_isub E dM_measure_9 ?_
  refine wm_i2l E dM_measure_10 ?_
  refine wm_letJ h (fun x11 h => ?_)
  refine wm_lstore (lv' := [(9, vL x11), (7, vL x4), (0, vR (some b)), (1, vI v1), (2, vI v2), (3, vI v3), (4, vI v4), (5, vI v5), (6, vI v6)]) E dM_measure_11 (by decide) rfl ?_
  refine wm_lload E dM_measure_13 (j := 1) rfl ?_
  refine wm_lload E dM_measure_15 (j := 1) rfl ?_
  refine wm_lmul E dM_measure_17 ?_
  refine wm_lload E dM_measure_18 (j := 0) rfl ?_
  refine wm_lload E dM_measure_20 (j := 0) rfl ?_
  refine wm_lmul E dM_measure_22 ?_
  refine wm_ladd E dM_measure_23 ?_
  refine wm_letJ h (fun x24 h => ?_)
  refine wm_lstore (lv' := [(11, vL x24), (9, vL x11), (7, vL x4), (0, vR (some b)), (1, vI v1), (2, vI v2), (3, vI v3), (4, vI v4), (5, vI v5), (6, vI v6)]) E dM_measure_24 (by decide) rfl ?_
  refine wm_lload E dM_measure_26 (j := 2) rfl ?_
  refine wm_iload E dM_measure_28 (j := 8) rfl ?_
  refine wm_iload_n E dM_measure_30 rfl (j := 4) rfl ?_
  refine wm_isub E dM_measure_31 ?_
  refine wm_i2l E dM_measure_32 ?_
  refine wm_lmul E dM_measure_33 ?_
  refine wm_lload E dM_measure_34 (j := 1) rfl ?_
  refine wm_iload E dM_measure_36 (j := 9) rfl ?_
  refine wm_iload_n E dM_measure_38 rfl (j := 5) rfl ?_
  refine wm_isub E dM_measure_39 ?_
  refine wm_i2l E dM_measure_40 ?_
  refine wm_lmul E dM_measure_41 ?_
  refine wm_ladd E dM_measure_42 ?_
  refine wm_letJ h (fun x43 h => ?_)
  refine wm_lstore (lv' := [(13, vL x43), (11, vL x24), (9, vL x11), (7, vL x4), (0, vR (some b)), (1, vI v1), (2, vI v2), (3, vI v3), (4, vI v4), (5, vI v5), (6, vI v6)]) E dM_measure_43 (by decide) rfl ?_
  refine wm_aload_n E dM_measure_45 rfl (j := 4) rfl ?_
  refine wm_lload E dM_measure_46 (j := 1) rfl ?_
  refine wm_lconst (x := 0) E dM_measure_48 (by decide) ?_
  refine wm_lcmp E dM_measure_49 ?_
  refine wm_if_ne (tgt := 57) E dM_measure_50 (by decide) (fun c50 => ?_) (fun c50 => ?_)
  · have h := (if_neg c50).symm.trans h
    refine wm_lload E dM_measure_57 (j := 1) rfl ?_
    refine wm_pick (lv' := [(0, vR (some b)), (1, vI v1), (2, vI v2), (3, vI v3), (4, vI v4), (5, vI v5), (6, vI v6), (7, vL x4), (9, vL x11), (11, vL x24), (13, vL x43)]) [4, 5, 6, 7, 8, 9, 10, 3, 2, 1, 0] rfl ?_
    exact rw_M_measure_59 E hQ hR hI hW v1 v2 v3 v4 v5 v6 x4 x11 x24 x43 x24 (ρ) h
  · have h := (if_pos c50).symm.trans h
    refine wm_lconst (x := 1) E dM_measure_53 (by decide) ?_
    refine wm_goto (tgt := 59) E dM_measure_54 (by decide) ?_
    refine wm_pick (lv' := [(0, vR (some b)), (1, vI v1), (2, vI v2), (3, vI v3), (4, vI v4), (5, vI v5), (6, vI v6), (7, vL x4), (9, vL x11), (11, vL x24), (13, vL x43)]) [4, 5, 6, 7, 8, 9, 10, 3, 2, 1, 0] rfl ?_
    exact rw_M_measure_59 E hQ hR hI hW v1 v2 v3 v4 v5 v6 x4 x11 x24 x43 1 (ρ) h
