def B_P_watchOf_19 (μ : Mem)   (s0 : Option Nat) : Option (Option Nat) := some (s0)
set_option maxHeartbeats 4000000 in
set_option maxRecDepth 100000 in
theorem w_P_watchOf_19 {X : CX} (E : EV X prog_1_method_29_code 2 "PlaceFinder" (some (.object "PlaceFinder$Watch"))) {μ0 μ : Mem} {r : Option Nat} (hQ : RQ X 0 0 μ0 (some (vR r)) μ) (hR : xR X = { frames := 0, cells := 0, slots := 0, locals := 0 }) (hI : X.2.2.2.2.2.2.2.2.2.2.2.1.name = "watchOf")  (s0 : Option Nat) (h : B_P_watchOf_19 μ  s0 = some r) : WM X 2 19 [] [vR s0] 0 0 μ := by
  have h : (some (s0)) = some r := h
  exact wm_aret E hQ (rqR0 h) rfl (Or.inl ⟨_, rfl⟩) (by decide) (by decide) dP_watchOf_19
def B_P_watchOf_18 (μ : Mem)    : Option (Option Nat) := B_P_watchOf_19 μ none
set_option maxHeartbeats 4000000 in
set_option maxRecDepth 100000 in
theorem w_P_watchOf_18 {X : CX} (E : EV X prog_1_method_29_code 2 "PlaceFinder" (some (.object "PlaceFinder$Watch"))) {μ0 μ : Mem} {r : Option Nat} (hQ : RQ X 0 0 μ0 (some (vR r)) μ) (hR : xR X = { frames := 0, cells := 0, slots := 0, locals := 0 }) (hI : X.2.2.2.2.2.2.2.2.2.2.2.1.name = "watchOf")   (h : B_P_watchOf_18 μ   = some r) : WM X 2 18 [] [] 0 0 μ := by
  have h : (B_P_watchOf_19 μ none) = some r := h
  refine wm_null E dP_watchOf_18 ?_
  refine wm_pick (lv' := []) [] rfl ?_
  exact w_P_watchOf_19 E hQ hR hI none h
def S_P_watchOf (v0 : Option Nat) (v1 : Int32) (μ : Mem) : Option (Option Nat) := if v1 < 0 then B_P_watchOf_18 μ  else if 4 ≤ v1 then B_P_watchOf_18 μ  else b1 (gR μ v0 11 8) (fun x10 => b1 (aR μ x10 5 v1) (fun x14 => B_P_watchOf_19 μ x14))
set_option maxHeartbeats 4000000 in
set_option maxRecDepth 100000 in
theorem C_P_watchOf (l : Launch) (G : GG) (v0 : Option Nat) (v1 : Int32) (μ : Mem) (r : Option Nat) (h : S_P_watchOf v0 v1 μ = some r) : CT l G y_P_watchOf prog_1_method_29_code 2 (some (.object "PlaceFinder$Watch")) 0 0 0 0 μ [vR v0, vI v1] (some (vR r)) μ := by
  refine wm_met (lv := [(0, vR v0), (1, vI v1)]) (by decide +kernel) (Nat.le_of_ble_eq_true rfl) rfl (fun X E hQ hR hI => ?_)
  have h : (if v1 < 0 then B_P_watchOf_18 μ  else if 4 ≤ v1 then B_P_watchOf_18 μ  else b1 (gR μ v0 11 8) (fun x10 => b1 (aR μ x10 5 v1) (fun x14 => B_P_watchOf_19 μ x14))) = some r := h
  refine wm_iload_n E dP_watchOf_0 rfl (j := 1) rfl ?_
  refine wm_if_lt (tgt := 18) E dP_watchOf_1 (by decide) (fun c1 => ?_) (fun c1 => ?_)
  · have h := (if_pos c1).symm.trans h
    refine wm_pick (lv' := []) [] rfl ?_
    exact w_P_watchOf_18 E hQ hR hI  h
  · have h := (if_neg c1).symm.trans h
    refine wm_iload_n E dP_watchOf_4 rfl (j := 1) rfl ?_
    refine wm_iconst (x := 4) E dP_watchOf_5 (by decide) ?_
    refine wm_icmp_ge (tgt := 18) E dP_watchOf_6 (by decide) (fun c6 => ?_) (fun c6 => ?_)
    · have h := (if_pos c6).symm.trans h
      refine wm_pick (lv' := []) [] rfl ?_
      exact w_P_watchOf_18 E hQ hR hI  h
    · have h := (if_neg c6).symm.trans h
      refine wm_aload_n E dP_watchOf_9 rfl (j := 0) rfl ?_
      refine wm_gR E fd_P_48 h dP_watchOf_10 (fun x10 h => ?_)
      refine wm_iload_n E dP_watchOf_13 rfl (j := 1) rfl ?_
      refine wm_aald (t := 5) E rfl rfl h dP_watchOf_14 (fun x14 h => ?_)
      refine wm_goto (tgt := 19) E dP_watchOf_15 (by decide) ?_
      refine wm_pick (lv' := []) [] rfl ?_
      exact w_P_watchOf_19 E hQ hR hI x14 h
def B_Wa_hasTold_16 (μ : Mem)   (s0 : Int32) : Option Int32 := gd (¬ okZ s0 = true) (some (s0))
set_option maxHeartbeats 4000000 in
set_option maxRecDepth 100000 in
theorem w_Wa_hasTold_16 {X : CX} (E : EV X prog_10_method_2_code 2 "PlaceFinder$Watch" (some .boolean)) {μ0 μ : Mem} {r : Int32} (hQ : RQ X 0 0 μ0 (some (vI r)) μ) (hR : xR X = { frames := 0, cells := 0, slots := 0, locals := 0 }) (hI : X.2.2.2.2.2.2.2.2.2.2.2.1.name = "hasTold")  (s0 : Int32) (h : B_Wa_hasTold_16 μ  s0 = some r) : WM X 2 16 [] [vI s0] 0 0 μ := by
  have h : (gd (¬ okZ s0 = true) (some (s0))) = some r := h
  obtain ⟨hz16, h⟩ := gdS h
  exact wm_zret (rt := .boolean) E hQ (rqI1 h) rfl (okZN hz16) (by decide) (by decide) dWa_hasTold_16
def S_Wa_hasTold (v0 : Option Nat) (v1 : Int32) (μ : Mem) : Option Int32 := b1 (gI μ v0 9 3) (fun x1 => if (x1 &&& (1 <<< (v1 &&& 31))) = 0 then B_Wa_hasTold_16 μ 0 else B_Wa_hasTold_16 μ 1)
set_option maxHeartbeats 4000000 in
set_option maxRecDepth 100000 in
theorem C_Wa_hasTold (l : Launch) (G : GG) (v0 : Option Nat) (v1 : Int32) (μ : Mem) (r : Int32) (h : S_Wa_hasTold v0 v1 μ = some r) : CT l G y_Wa_hasTold prog_10_method_2_code 2 (some .boolean) 0 0 0 0 μ [vR v0, vI v1] (some (vI r)) μ := by
  refine wm_met (lv := [(0, vR v0), (1, vI v1)]) (by decide +kernel) (Nat.le_of_ble_eq_true rfl) rfl (fun X E hQ hR hI => ?_)
  have h : (b1 (gI μ v0 9 3) (fun x1 => if (x1 &&& (1 <<< (v1 &&& 31))) = 0 then B_Wa_hasTold_16 μ 0 else B_Wa_hasTold_16 μ 1)) = some r := h
  refine wm_aload_n E dWa_hasTold_0 rfl (j := 0) rfl ?_
  refine wm_gI E fd_Wa_16 h dWa_hasTold_1 (fun x1 h => ?_)
  refine wm_iconst (x := 1) E dWa_hasTold_4 (by decide) ?_
  refine wm_iload_n E dWa_hasTold_5 rfl (j := 1) rfl ?_
  refine wm_ishl E dWa_hasTold_6 ?_
  refine wm_iand E dWa_hasTold_7 ?_
  refine wm_if_eq (tgt := 15) E dWa_hasTold_8 (by decide) (fun c8 => ?_) (fun c8 => ?_)
  · have h := (if_pos c8).symm.trans h
    refine wm_iconst (x := 0) E dWa_hasTold_15 (by decide) ?_
    refine wm_pick (lv' := []) [] rfl ?_
    exact w_Wa_hasTold_16 E hQ hR hI 0 h
  · have h := (if_neg c8).symm.trans h
    refine wm_iconst (x := 1) E dWa_hasTold_11 (by decide) ?_
    refine wm_goto (tgt := 16) E dWa_hasTold_12 (by decide) ?_
    refine wm_pick (lv' := []) [] rfl ?_
    exact w_Wa_hasTold_16 E hQ hR hI 1 h
def B_P_news_88 (k30 : Option Nat → Option Nat → Int32 → Mem → Option ((Nat ⊕ Int32) × Mem)) (v0 : Option Nat) (v2 : Option Nat) (v3 : Int32) (μ : Mem) : Option ((Nat ⊕ Int32) × Mem) := k30 v0 v2 (v3 + 1) μ
set_option maxHeartbeats 4000000 in
set_option maxRecDepth 100000 in
theorem w_P_news_88 {X : CX} (E : EV X prog_1_method_20_code 4 "PlaceFinder" (some .int)) {μ0 μ' : Mem} {r : (Nat ⊕ Int32)} (hQ : RQ2 X 1 6 μ0 (cvI r) μ') (hR : xR X = { frames := 10, cells := 1, slots := 6, locals := 230 }) (hI : X.2.2.2.2.2.2.2.2.2.2.2.1.name = "news") (k30 : Option Nat → Option Nat → Int32 → Mem → Option ((Nat ⊕ Int32) × Mem)) (hk30 : ∀ (v0 : Option Nat) (v2 : Option Nat) (v3 : Int32) (μ : Mem), k30 v0 v2 v3 μ = some (r, μ') → WM X 4 30 [(0, vR v0), (2, vR v2), (3, vI v3)] [] 0 0 μ) (v0 : Option Nat) (v2 : Option Nat) (v3 : Int32) (μ : Mem) (h : B_P_news_88 k30 v0 v2 v3 μ = some (r, μ')) : WM X 4 88 [(0, vR v0), (2, vR v2), (3, vI v3)] [] 0 0 μ := by
  have h : (k30 v0 v2 (v3 + 1) μ) = some (r, μ') := h
  refine wm_iinc (lv' := [(3, vI (v3 + 1)), (0, vR v0), (2, vR v2)]) (d := 1) E dP_news_88 (by decide) (j := 2) rfl (by decide) rfl ?_
  refine wm_goto (tgt := 30) E dP_news_91 (by decide) ?_
  refine wm_pick (lv' := [(0, vR v0), (2, vR v2), (3, vI (v3 + 1))]) [1, 2, 0] rfl ?_
  exact hk30 v0 v2 (v3 + 1) μ h
def B_P_news_30  : Nat → Option Nat → Option Nat → Int32 → Mem → Option ((Nat ⊕ Int32) × Mem)
  | 0, _, _, _, _ => none
  | n + 1, v0, v2, v3, μ => b1 (gR μ v0 11 0) (fun x32 => b1 (rc μ x32 0) (fun _ => b1 (S_Al_size x32 μ) (fun x35 => if x35 ≤ v3 then b1 (gR μ v0 11 9) (fun x95 => b1 (gI μ x95 4 2) (fun x98 => some (.inr x98, μ))) else b1 (rc μ v2 9) (fun _ => b1 (S_Wa_hasTold v2 v3 μ) (fun x43 => if x43 = 0 then b1 (gR μ v0 11 0) (fun x51 => b1 (rc μ x51 0) (fun _ => b1 (S_Al_get x51 v3 μ) (fun x55 => b1 (cK μ x55 7) (fun _ => b1 (gR μ v2 9 0) (fun x62 => b1 (gR μ v2 9 1) (fun x66 => b1 (gI μ v2 9 2) (fun x70 => b1 (rc μ v0 11) (fun _ => b2 (S_P_meets v0 x55 x62 x66 x70 μ) (fun x73 m73 => if x73 = 0 then B_P_news_88 (fun v0 v2 v3 μ => B_P_news_30 n v0 v2 v3 μ) v0 v2 v3 m73 else b1 (gR m73 v0 11 9) (fun x80 => b1 (rc m73 x80 4) (fun _ => b2 (S_Hi_add x80 v3 0 m73) (fun x85 m85 => B_P_news_88 (fun v0 v2 v3 μ => B_P_news_30 n v0 v2 v3 μ) v0 v2 v3 m85)))))))))))) else B_P_news_88 (fun v0 v2 v3 μ => B_P_news_30 n v0 v2 v3 μ) v0 v2 v3 μ)))))
set_option maxHeartbeats 4000000 in
set_option maxRecDepth 100000 in
theorem w_P_news_30 {X : CX} (E : EV X prog_1_method_20_code 4 "PlaceFinder" (some .int)) {μ0 μ' : Mem} {r : (Nat ⊕ Int32)} (hQ : RQ2 X 1 6 μ0 (cvI r) μ') (hR : xR X = { frames := 10, cells := 1, slots := 6, locals := 230 }) (hI : X.2.2.2.2.2.2.2.2.2.2.2.1.name = "news")  (n : Nat) : ∀ (v0 : Option Nat) (v2 : Option Nat) (v3 : Int32) (μ : Mem) (h : B_P_news_30  n v0 v2 v3 μ = some (r, μ')), WM X 4 30 [(0, vR v0), (2, vR v2), (3, vI v3)] [] 0 0 μ := by
  induction n with
  | zero => intro v0 v2 v3 μ h; cases h
  | succ n ih =>
    intro v0 v2 v3 μ h
    have h : (b1 (gR μ v0 11 0) (fun x32 => b1 (rc μ x32 0) (fun _ => b1 (S_Al_size x32 μ) (fun x35 => if x35 ≤ v3 then b1 (gR μ v0 11 9) (fun x95 => b1 (gI μ x95 4 2) (fun x98 => some (.inr x98, μ))) else b1 (rc μ v2 9) (fun _ => b1 (S_Wa_hasTold v2 v3 μ) (fun x43 => if x43 = 0 then b1 (gR μ v0 11 0) (fun x51 => b1 (rc μ x51 0) (fun _ => b1 (S_Al_get x51 v3 μ) (fun x55 => b1 (cK μ x55 7) (fun _ => b1 (gR μ v2 9 0) (fun x62 => b1 (gR μ v2 9 1) (fun x66 => b1 (gI μ v2 9 2) (fun x70 => b1 (rc μ v0 11) (fun _ => b2 (S_P_meets v0 x55 x62 x66 x70 μ) (fun x73 m73 => if x73 = 0 then B_P_news_88 (fun v0 v2 v3 μ => B_P_news_30 n v0 v2 v3 μ) v0 v2 v3 m73 else b1 (gR m73 v0 11 9) (fun x80 => b1 (rc m73 x80 4) (fun _ => b2 (S_Hi_add x80 v3 0 m73) (fun x85 m85 => B_P_news_88 (fun v0 v2 v3 μ => B_P_news_30 n v0 v2 v3 μ) v0 v2 v3 m85)))))))))))) else B_P_news_88 (fun v0 v2 v3 μ => B_P_news_30 n v0 v2 v3 μ) v0 v2 v3 μ)))))) = some (r, μ') := h
    refine wm_iload_n E dP_news_30 rfl (j := 2) rfl ?_
    refine wm_aload_n E dP_news_31 rfl (j := 0) rfl ?_
    refine wm_gR E fd_P_10 h dP_news_32 (fun x32 h => ?_)
    obtain ⟨u35, hr35, h⟩ := b1S h
    obtain ⟨x35, hc35, h⟩ := b1S h
    refine wm_cV (ci := 0) (As := []) (st := [vI v3]) E lk_P_98 rfl im_Al_size sl_Al_size hr35 (C_Al_size (xl X) X.1 x32 μ _ hc35) rfl rfl (by rw [hR]; decide) (by rw [hR]; decide) (Nat.le_of_ble_eq_true rfl) dP_news_35 ?_
    refine wm_icmp_ge (tgt := 94) E dP_news_38 (by decide) (fun c38 => ?_) (fun c38 => ?_)
    · have h := (if_pos c38).symm.trans h
      refine wm_aload_n E dP_news_94 rfl (j := 0) rfl ?_
      refine wm_gR E fd_P_55 h dP_news_95 (fun x95 h => ?_)
      refine wm_gI E fd_P_238 h dP_news_98 (fun x98 h => ?_)
      exact wm_iret (rt := .int) E (rqI hQ h) rfl rfl (by decide) (by decide) dP_news_101
    · have h := (if_neg c38).symm.trans h
      refine wm_aload_n E dP_news_41 rfl (j := 1) rfl ?_
      refine wm_iload_n E dP_news_42 rfl (j := 2) rfl ?_
      obtain ⟨u43, hr43, h⟩ := b1S h
      obtain ⟨x43, hc43, h⟩ := b1S h
      refine wm_cV (ci := 9) (As := [vI v3]) (st := []) E lk_P_308 rfl im_Wa_hasTold sl_Wa_hasTold hr43 (C_Wa_hasTold (xl X) X.1 v2 v3 μ _ hc43) rfl rfl (by rw [hR]; decide) (by rw [hR]; decide) (Nat.le_of_ble_eq_true rfl) dP_news_43 ?_
      refine wm_if_ne (tgt := 88) E dP_news_46 (by decide) (fun c46 => ?_) (fun c46 => ?_)
      · have h := (if_neg c46).symm.trans h
        refine wm_pick (lv' := [(0, vR v0), (2, vR v2), (3, vI v3)]) [0, 1, 2] rfl ?_
        exact w_P_news_88 E hQ hR hI (fun v0 v2 v3 μ => B_P_news_30 n v0 v2 v3 μ) ih v0 v2 v3 μ h
      · have h := (if_pos c46).symm.trans h
        refine wm_aload_n E dP_news_49 rfl (j := 0) rfl ?_
        refine wm_aload_n E dP_news_50 rfl (j := 0) rfl ?_
        refine wm_gR E fd_P_10 h dP_news_51 (fun x51 h => ?_)
        refine wm_iload_n E dP_news_54 rfl (j := 2) rfl ?_
        obtain ⟨u55, hr55, h⟩ := b1S h
        obtain ⟨x55, hc55, h⟩ := b1S h
        refine wm_cV (ci := 0) (As := [vI v3]) (st := [vR v0]) E lk_P_223 rfl im_Al_get sl_Al_get hr55 (C_Al_get (xl X) X.1 x51 v3 μ _ hc55) rfl rfl (by rw [hR]; decide) (by rw [hR]; decide) (Nat.le_of_ble_eq_true rfl) dP_news_55 ?_
        refine wm_ckc (ci := 7) E rfl cl_P_107 h dP_news_58 (fun h => ?_)
        refine wm_aload_n E dP_news_61 rfl (j := 1) rfl ?_
        refine wm_gR E fd_P_301 h dP_news_62 (fun x62 h => ?_)
        refine wm_aload_n E dP_news_65 rfl (j := 1) rfl ?_
        refine wm_gR E fd_P_311 h dP_news_66 (fun x66 h => ?_)
        refine wm_aload_n E dP_news_69 rfl (j := 1) rfl ?_
        refine wm_gI E fd_P_314 h dP_news_70 (fun x70 h => ?_)
        obtain ⟨u73, hr73, h⟩ := b1S h
        obtain ⟨x73, m73, hc73, h⟩ := b2S h
        refine wm_cV (ci := 11) (As := [vR x55, vR x62, vR x66, vI x70]) (st := []) E lk_P_227 rfl im_P_meets sl_P_meets hr73 (C_P_meets (xl X) X.1 v0 x55 x62 x66 x70 μ _ _ hc73) rfl rfl (by rw [hR]; decide) (by rw [hR]; decide) (Nat.le_of_ble_eq_true rfl) dP_news_73 ?_
        refine wm_if_eq (tgt := 88) E dP_news_76 (by decide) (fun c76 => ?_) (fun c76 => ?_)
        · have h := (if_pos c76).symm.trans h
          refine wm_pick (lv' := [(0, vR v0), (2, vR v2), (3, vI v3)]) [0, 1, 2] rfl ?_
          exact w_P_news_88 E hQ hR hI (fun v0 v2 v3 μ => B_P_news_30 n v0 v2 v3 μ) ih v0 v2 v3 m73 h
        · have h := (if_neg c76).symm.trans h
          refine wm_aload_n E dP_news_79 rfl (j := 0) rfl ?_
          refine wm_gR E fd_P_55 h dP_news_80 (fun x80 h => ?_)
          refine wm_iload_n E dP_news_83 rfl (j := 2) rfl ?_
          refine wm_lconst (x := 0) E dP_news_84 (by decide) ?_
          obtain ⟨u85, hr85, h⟩ := b1S h
          obtain ⟨x85, m85, hc85, h⟩ := b2S h
          refine wm_cV (ci := 4) (As := [vI v3, vL 0]) (st := []) E lk_P_235 rfl im_Hi_add sl_Hi_add hr85 (C_Hi_add (xl X) X.1 x80 v3 0 m73 _ _ hc85) rfl rfl (by rw [hR]; decide) (by rw [hR]; decide) (Nat.le_of_ble_eq_true rfl) dP_news_85 ?_
          refine wm_pick (lv' := [(0, vR v0), (2, vR v2), (3, vI v3)]) [0, 1, 2] rfl ?_
          exact w_P_news_88 E hQ hR hI (fun v0 v2 v3 μ => B_P_news_30 n v0 v2 v3 μ) ih v0 v2 v3 m85 h
def S_P_news (v0 : Option Nat) (v1 : Int32) (μ : Mem) : Option ((Nat ⊕ Int32) × Mem) := b1 (rc μ v0 11) (fun _ => b1 (S_P_watchOf v0 v1 μ) (fun x2 => if x2 = none then some (.inl 0, μ) else b1 (gR μ v0 11 9) (fun x22 => b1 (rc μ x22 4) (fun _ => b2 (S_Hi_empty x22 μ) (fun x25 m25 => B_P_news_30 fu v0 x2 0 m25)))))
set_option maxHeartbeats 4000000 in
set_option maxRecDepth 100000 in
theorem w_P_news_e {X : CX} (E : EV X prog_1_method_20_code 4 "PlaceFinder" (some .int)) {μ0 μ' : Mem} {r : (Nat ⊕ Int32)} (hQ : RQ2 X 1 6 μ0 (cvI r) μ') (hR : xR X = { frames := 10, cells := 1, slots := 6, locals := 230 }) (hI : X.2.2.2.2.2.2.2.2.2.2.2.1.name = "news") (v0 : Option Nat) (v1 : Int32) (μ : Mem) (h : S_P_news v0 v1 μ = some (r, μ')) : WM X 4 0 [(0, vR v0), (1, vI v1)] [] 0 0 μ := by
  have h : (b1 (rc μ v0 11) (fun _ => b1 (S_P_watchOf v0 v1 μ) (fun x2 => if x2 = none then some (.inl 0, μ) else b1 (gR μ v0 11 9) (fun x22 => b1 (rc μ x22 4) (fun _ => b2 (S_Hi_empty x22 μ) (fun x25 m25 => B_P_news_30 fu v0 x2 0 m25)))))) = some (r, μ') := h
  refine wm_aload_n E dP_news_0 rfl (j := 0) rfl ?_
  refine wm_iload_n E dP_news_1 rfl (j := 1) rfl ?_
  obtain ⟨u2, hr2, h⟩ := b1S h
  obtain ⟨x2, hc2, h⟩ := b1S h
  refine wm_cV (ci := 11) (As := [vI v1]) (st := []) E lk_P_302 rfl im_P_watchOf sl_P_watchOf hr2 (C_P_watchOf (xl X) X.1 v0 v1 μ _ hc2) rfl rfl (by rw [hR]; decide) (by rw [hR]; decide) (Nat.le_of_ble_eq_true rfl) dP_news_2 ?_
  refine wm_astore_n (lv' := [(2, vR x2), (0, vR v0), (1, vI v1)]) E dP_news_5 rfl (by decide) rfl ?_
  refine wm_aload_n E dP_news_6 rfl (j := 0) rfl ?_
  refine wm_ifnonnull (tgt := 21) E dP_news_7 (by decide) (fun c7 => ?_) (fun c7 => ?_)
  · have h := (if_neg c7).symm.trans h
    refine wm_aload_n E dP_news_21 rfl (j := 1) rfl ?_
    refine wm_gR E fd_P_55 h dP_news_22 (fun x22 h => ?_)
    obtain ⟨u25, hr25, h⟩ := b1S h
    obtain ⟨x25, m25, hc25, h⟩ := b2S h
    refine wm_cV (ci := 4) (As := []) (st := []) E lk_P_220 rfl im_Hi_empty sl_Hi_empty hr25 (C_Hi_empty (xl X) X.1 x22 μ _ _ hc25) rfl rfl (by rw [hR]; decide) (by rw [hR]; decide) (Nat.le_of_ble_eq_true rfl) dP_news_25 ?_
    refine wm_iconst (x := 0) E dP_news_28 (by decide) ?_
    refine wm_istore_n (lv' := [(3, vI 0), (2, vR x2), (0, vR v0), (1, vI v1)]) E dP_news_29 rfl (by decide) rfl ?_
    refine wm_pick (lv' := [(0, vR v0), (2, vR x2), (3, vI 0)]) [2, 1, 0] rfl ?_
    exact w_P_news_30 E hQ hR hI fu v0 x2 0 m25 h
  · have h := (if_pos c7).symm.trans h
    obtain ⟨μs, hX⟩ := rqXI hQ h
    exact wm_throw (ln := 3) (names := exU) (cls := "java/lang/IllegalArgumentException") E tf_P_91_306 hX ⟨(by rw [hR]; decide), by decide⟩ ⟨(by rw [hR]; decide), by decide⟩ (by rw [hR]; decide) (by rw [hR]; decide) (Nat.le_of_ble_eq_true rfl) dP_news_10 dP_news_13 (Or.inr ⟨rfl, dP_news_14⟩) dP_news_17 dP_news_20
theorem C_P_news (l : Launch) (G : GG) (v0 : Option Nat) (v1 : Int32) (μ μ' : Mem) (r : Int32) (h : S_P_news v0 v1 μ = some (.inr r, μ')) : CT l G y_P_news prog_1_method_20_code 4 (some .int) 10 1 6 230 μ [vR v0, vI v1] (some (vI r)) μ' := by
  refine wm_met (lv := [(0, vR v0), (1, vI v1)]) (by decide +kernel) (Nat.le_of_ble_eq_true rfl) rfl (fun X E hQ hR hI => ?_)
  exact w_P_news_e (r := .inr r) E hQ hR hI v0 v1 μ h
theorem X_P_news (l : Launch) (hl : LF l) (G : GG) (v0 : Option Nat) (v1 : Int32) (μ μ' : Mem) (k : Nat) (h : S_P_news v0 v1 (m_up μ) = some (.inl k, μ')) : CZ l G y_P_news prog_1_method_20_code 4 (some .int) 10 1 6 230 μ [vR v0, vI v1] (exN k) := by
  refine wm_metX hl (lv := [(0, vR v0), (1, vI v1)]) (by decide +kernel) (Nat.le_of_ble_eq_true rfl) rfl (fun X E hX hR hI => ?_)
  exact w_P_news_e (μ0 := μ) (r := .inl k) E ⟨μ, hX⟩ hR hI v0 v1 (m_up μ) h
def S_In_bitCount (v0 : Int32) (μ : Mem) : Option Int32 := b0 (v0 - ((((v0 : Int32).toUInt32 >>> ((1 : Int32).toUInt32 &&& Int32.toUInt32 31)).toInt32) &&& 1431655765)) (fun x9 => b0 ((x9 &&& 858993459) + ((((x9 : Int32).toUInt32 >>> ((2 : Int32).toUInt32 &&& Int32.toUInt32 31)).toInt32) &&& 858993459)) (fun x23 => b0 ((x23 + (((x23 : Int32).toUInt32 >>> ((4 : Int32).toUInt32 &&& Int32.toUInt32 31)).toInt32)) &&& 252645135) (fun x33 => b0 (x33 + (((x33 : Int32).toUInt32 >>> ((8 : Int32).toUInt32 &&& Int32.toUInt32 31)).toInt32)) (fun x40 => b0 (x40 + (((x40 : Int32).toUInt32 >>> ((16 : Int32).toUInt32 &&& Int32.toUInt32 31)).toInt32)) (fun x47 => some (x47 &&& 63))))))
set_option maxHeartbeats 4000000 in
set_option maxRecDepth 100000 in
theorem C_In_bitCount (l : Launch) (G : GG) (v0 : Int32) (μ : Mem) (r : Int32) (h : S_In_bitCount v0 μ = some r) : CT l G y_In_bitCount prog_20_method_49_code 1 (some .int) 0 0 0 0 μ [vI v0] (some (vI r)) μ := by
  refine wm_met (lv := [(0, vI v0)]) (by decide +kernel) (Nat.le_of_ble_eq_true rfl) rfl (fun X E hQ hR hI => ?_)
  have h : (b0 (v0 - ((((v0 : Int32).toUInt32 >>> ((1 : Int32).toUInt32 &&& Int32.toUInt32 31)).toInt32) &&& 1431655765)) (fun x9 => b0 ((x9 &&& 858993459) + ((((x9 : Int32).toUInt32 >>> ((2 : Int32).toUInt32 &&& Int32.toUInt32 31)).toInt32) &&& 858993459)) (fun x23 => b0 ((x23 + (((x23 : Int32).toUInt32 >>> ((4 : Int32).toUInt32 &&& Int32.toUInt32 31)).toInt32)) &&& 252645135) (fun x33 => b0 (x33 + (((x33 : Int32).toUInt32 >>> ((8 : Int32).toUInt32 &&& Int32.toUInt32 31)).toInt32)) (fun x40 => b0 (x40 + (((x40 : Int32).toUInt32 >>> ((16 : Int32).toUInt32 &&& Int32.toUInt32 31)).toInt32)) (fun x47 => some (x47 &&& 63))))))) = some r := h
  refine wm_iload_n E dIn_bitCount_0 rfl (j := 0) rfl ?_
  refine wm_iload_n E dIn_bitCount_1 rfl (j := 0) rfl ?_
  refine wm_iconst (x := 1) E dIn_bitCount_2 (by decide) ?_
  refine wm_iushr E dIn_bitCount_3 ?_
  refine wm_ldcw (x := 1431655765) E cn_In_265 dIn_bitCount_4 ?_
  refine wm_iand E dIn_bitCount_7 ?_
  refine wm_isub E dIn_bitCount_8 ?_
  refine wm_letI h (fun x9 h => ?_)
  refine wm_istore_n (lv' := [(0, vI x9)]) E dIn_bitCount_9 rfl (by decide) rfl ?_
  refine wm_iload_n E dIn_bitCount_10 rfl (j := 0) rfl ?_
  refine wm_ldcw (x := 858993459) E cn_In_266 dIn_bitCount_11 ?_
  refine wm_iand E dIn_bitCount_14 ?_
  refine wm_iload_n E dIn_bitCount_15 rfl (j := 0) rfl ?_
  refine wm_iconst (x := 2) E dIn_bitCount_16 (by decide) ?_
  refine wm_iushr E dIn_bitCount_17 ?_
  refine wm_ldcw (x := 858993459) E cn_In_266 dIn_bitCount_18 ?_
  refine wm_iand E dIn_bitCount_21 ?_
  refine wm_iadd E dIn_bitCount_22 ?_
  refine wm_letI h (fun x23 h => ?_)
  refine wm_istore_n (lv' := [(0, vI x23)]) E dIn_bitCount_23 rfl (by decide) rfl ?_
  refine wm_iload_n E dIn_bitCount_24 rfl (j := 0) rfl ?_
  refine wm_iload_n E dIn_bitCount_25 rfl (j := 0) rfl ?_
  refine wm_iconst (x := 4) E dIn_bitCount_26 (by decide) ?_
  refine wm_iushr E dIn_bitCount_27 ?_
  refine wm_iadd E dIn_bitCount_28 ?_
  refine wm_ldcw (x := 252645135) E cn_In_267 dIn_bitCount_29 ?_
  refine wm_iand E dIn_bitCount_32 ?_
  refine wm_letI h (fun x33 h => ?_)
  refine wm_istore_n (lv' := [(0, vI x33)]) E dIn_bitCount_33 rfl (by decide) rfl ?_
  refine wm_iload_n E dIn_bitCount_34 rfl (j := 0) rfl ?_
  refine wm_iload_n E dIn_bitCount_35 rfl (j := 0) rfl ?_
  refine wm_bipush (x := 8) E dIn_bitCount_36 (by decide) ?_
  refine wm_iushr E dIn_bitCount_38 ?_
  refine wm_iadd E dIn_bitCount_39 ?_
  refine wm_letI h (fun x40 h => ?_)
  refine wm_istore_n (lv' := [(0, vI x40)]) E dIn_bitCount_40 rfl (by decide) rfl ?_
  refine wm_iload_n E dIn_bitCount_41 rfl (j := 0) rfl ?_
  refine wm_iload_n E dIn_bitCount_42 rfl (j := 0) rfl ?_
  refine wm_bipush (x := 16) E dIn_bitCount_43 (by decide) ?_
  refine wm_iushr E dIn_bitCount_45 ?_
  refine wm_iadd E dIn_bitCount_46 ?_
  refine wm_letI h (fun x47 h => ?_)
  refine wm_istore_n (lv' := [(0, vI x47)]) E dIn_bitCount_47 rfl (by decide) rfl ?_
  refine wm_iload_n E dIn_bitCount_48 rfl (j := 0) rfl ?_
  refine wm_bipush (x := 63) E dIn_bitCount_49 (by decide) ?_
  refine wm_iand E dIn_bitCount_51 ?_
  exact wm_iret (rt := .int) E hQ (rqI1 h) rfl (by decide) (by decide) dIn_bitCount_52
def B_P_told_76 (k26 : Option Nat → Option Nat → Int32 → Int32 → Mem → Option ((Nat ⊕ Int32) × Mem)) (v0 : Option Nat) (v2 : Option Nat) (v3 : Int32) (v4 : Int32) (μ : Mem) : Option ((Nat ⊕ Int32) × Mem) := k26 v0 v2 v3 (v4 + 1) μ
set_option maxHeartbeats 4000000 in
set_option maxRecDepth 100000 in
theorem w_P_told_76 {X : CX} (E : EV X prog_1_method_21_code 5 "PlaceFinder" (some .int)) {μ0 μ' : Mem} {r : (Nat ⊕ Int32)} (hQ : RQ2 X 1 6 μ0 (cvI r) μ') (hR : xR X = { frames := 10, cells := 1, slots := 6, locals := 230 }) (hI : X.2.2.2.2.2.2.2.2.2.2.2.1.name = "told") (k26 : Option Nat → Option Nat → Int32 → Int32 → Mem → Option ((Nat ⊕ Int32) × Mem)) (hk26 : ∀ (v0 : Option Nat) (v2 : Option Nat) (v3 : Int32) (v4 : Int32) (μ : Mem), k26 v0 v2 v3 v4 μ = some (r, μ') → WM X 5 26 [(0, vR v0), (2, vR v2), (3, vI v3), (4, vI v4)] [] 0 0 μ) (v0 : Option Nat) (v2 : Option Nat) (v3 : Int32) (v4 : Int32) (μ : Mem) (h : B_P_told_76 k26 v0 v2 v3 v4 μ = some (r, μ')) : WM X 5 76 [(0, vR v0), (2, vR v2), (3, vI v3), (4, vI v4)] [] 0 0 μ := by
  have h : (k26 v0 v2 v3 (v4 + 1) μ) = some (r, μ') := h
  refine wm_iinc (lv' := [(4, vI (v4 + 1)), (0, vR v0), (2, vR v2), (3, vI v3)]) (d := 1) E dP_told_76 (by decide) (j := 3) rfl (by decide) rfl ?_
  refine wm_goto (tgt := 26) E dP_told_79 (by decide) ?_
  refine wm_pick (lv' := [(0, vR v0), (2, vR v2), (3, vI v3), (4, vI (v4 + 1))]) [1, 2, 3, 0] rfl ?_
  exact hk26 v0 v2 v3 (v4 + 1) μ h
def B_P_told_26  : Nat → Option Nat → Option Nat → Int32 → Int32 → Mem → Option ((Nat ⊕ Int32) × Mem)
  | 0, _, _, _, _, _ => none
  | n + 1, v0, v2, v3, v4, μ => b1 (gR μ v0 11 0) (fun x29 => b1 (rc μ x29 0) (fun _ => b1 (S_Al_size x29 μ) (fun x32 => if x32 ≤ v4 then b1 (pV μ v2 9 3 (vI v3)) (fun m84 => b1 (S_In_bitCount v3 m84) (fun x88 => some (.inr x88, m84))) else b1 (gR μ v0 11 0) (fun x40 => b1 (rc μ x40 0) (fun _ => b1 (S_Al_get x40 v4 μ) (fun x45 => b1 (cK μ x45 7) (fun _ => b1 (gR μ v2 9 0) (fun x52 => b1 (gR μ v2 9 1) (fun x56 => b1 (gI μ v2 9 2) (fun x60 => b1 (rc μ v0 11) (fun _ => b2 (S_P_meets v0 x45 x52 x56 x60 μ) (fun x63 m63 => if x63 = 0 then B_P_told_76 (fun v0 v2 v3 v4 μ => B_P_told_26 n v0 v2 v3 v4 μ) v0 v2 v3 v4 m63 else b0 (v3 ||| (1 <<< (v4 &&& 31))) (fun x75 => B_P_told_76 (fun v0 v2 v3 v4 μ => B_P_told_26 n v0 v2 v3 v4 μ) v0 v2 x75 v4 m63)))))))))))))
set_option maxHeartbeats 4000000 in
set_option maxRecDepth 100000 in
theorem w_P_told_26 {X : CX} (E : EV X prog_1_method_21_code 5 "PlaceFinder" (some .int)) {μ0 μ' : Mem} {r : (Nat ⊕ Int32)} (hQ : RQ2 X 1 6 μ0 (cvI r) μ') (hR : xR X = { frames := 10, cells := 1, slots := 6, locals := 230 }) (hI : X.2.2.2.2.2.2.2.2.2.2.2.1.name = "told")  (n : Nat) : ∀ (v0 : Option Nat) (v2 : Option Nat) (v3 : Int32) (v4 : Int32) (μ : Mem) (h : B_P_told_26  n v0 v2 v3 v4 μ = some (r, μ')), WM X 5 26 [(0, vR v0), (2, vR v2), (3, vI v3), (4, vI v4)] [] 0 0 μ := by
  induction n with
  | zero => intro v0 v2 v3 v4 μ h; cases h
  | succ n ih =>
    intro v0 v2 v3 v4 μ h
    have h : (b1 (gR μ v0 11 0) (fun x29 => b1 (rc μ x29 0) (fun _ => b1 (S_Al_size x29 μ) (fun x32 => if x32 ≤ v4 then b1 (pV μ v2 9 3 (vI v3)) (fun m84 => b1 (S_In_bitCount v3 m84) (fun x88 => some (.inr x88, m84))) else b1 (gR μ v0 11 0) (fun x40 => b1 (rc μ x40 0) (fun _ => b1 (S_Al_get x40 v4 μ) (fun x45 => b1 (cK μ x45 7) (fun _ => b1 (gR μ v2 9 0) (fun x52 => b1 (gR μ v2 9 1) (fun x56 => b1 (gI μ v2 9 2) (fun x60 => b1 (rc μ v0 11) (fun _ => b2 (S_P_meets v0 x45 x52 x56 x60 μ) (fun x63 m63 => if x63 = 0 then B_P_told_76 (fun v0 v2 v3 v4 μ => B_P_told_26 n v0 v2 v3 v4 μ) v0 v2 v3 v4 m63 else b0 (v3 ||| (1 <<< (v4 &&& 31))) (fun x75 => B_P_told_76 (fun v0 v2 v3 v4 μ => B_P_told_26 n v0 v2 v3 v4 μ) v0 v2 x75 v4 m63)))))))))))))) = some (r, μ') := h
    refine wm_iload E dP_told_26 (j := 3) rfl ?_
    refine wm_aload_n E dP_told_28 rfl (j := 0) rfl ?_
    refine wm_gR E fd_P_10 h dP_told_29 (fun x29 h => ?_)
    obtain ⟨u32, hr32, h⟩ := b1S h
    obtain ⟨x32, hc32, h⟩ := b1S h
    refine wm_cV (ci := 0) (As := []) (st := [vI v4]) E lk_P_98 rfl im_Al_size sl_Al_size hr32 (C_Al_size (xl X) X.1 x29 μ _ hc32) rfl rfl (by rw [hR]; decide) (by rw [hR]; decide) (Nat.le_of_ble_eq_true rfl) dP_told_32 ?_
    refine wm_icmp_ge (tgt := 82) E dP_told_35 (by decide) (fun c35 => ?_) (fun c35 => ?_)
    · have h := (if_pos c35).symm.trans h
      refine wm_aload_n E dP_told_82 rfl (j := 1) rfl ?_
      refine wm_iload_n E dP_told_83 rfl (j := 2) rfl ?_
      refine wm_pI E fp_P_317 (fun q => by cases q) h dP_told_84 (fun m84 h => ?_)
      refine wm_iload_n E dP_told_87 rfl (j := 2) rfl ?_
      obtain ⟨x88, hc88, h⟩ := b1S h
      refine wm_cS (As := [vI v3]) (st := []) E lk_P_320 sc_In_bitCount (C_In_bitCount (xl X) X.1 v3 m84 _ hc88) rfl rfl (by rw [hR]; decide) (by rw [hR]; decide) (Nat.le_of_ble_eq_true rfl) dP_told_88 ?_
      exact wm_iret (rt := .int) E (rqI hQ h) rfl rfl (by decide) (by decide) dP_told_91
    · have h := (if_neg c35).symm.trans h
      refine wm_aload_n E dP_told_38 rfl (j := 0) rfl ?_
      refine wm_aload_n E dP_told_39 rfl (j := 0) rfl ?_
      refine wm_gR E fd_P_10 h dP_told_40 (fun x40 h => ?_)
      refine wm_iload E dP_told_43 (j := 3) rfl ?_
      obtain ⟨u45, hr45, h⟩ := b1S h
      obtain ⟨x45, hc45, h⟩ := b1S h
      refine wm_cV (ci := 0) (As := [vI v4]) (st := [vR v0]) E lk_P_223 rfl im_Al_get sl_Al_get hr45 (C_Al_get (xl X) X.1 x40 v4 μ _ hc45) rfl rfl (by rw [hR]; decide) (by rw [hR]; decide) (Nat.le_of_ble_eq_true rfl) dP_told_45 ?_
      refine wm_ckc (ci := 7) E rfl cl_P_107 h dP_told_48 (fun h => ?_)
      refine wm_aload_n E dP_told_51 rfl (j := 1) rfl ?_
      refine wm_gR E fd_P_301 h dP_told_52 (fun x52 h => ?_)
      refine wm_aload_n E dP_told_55 rfl (j := 1) rfl ?_
      refine wm_gR E fd_P_311 h dP_told_56 (fun x56 h => ?_)
      refine wm_aload_n E dP_told_59 rfl (j := 1) rfl ?_
      refine wm_gI E fd_P_314 h dP_told_60 (fun x60 h => ?_)
      obtain ⟨u63, hr63, h⟩ := b1S h
      obtain ⟨x63, m63, hc63, h⟩ := b2S h
      refine wm_cV (ci := 11) (As := [vR x45, vR x52, vR x56, vI x60]) (st := []) E lk_P_227 rfl im_P_meets sl_P_meets hr63 (C_P_meets (xl X) X.1 v0 x45 x52 x56 x60 μ _ _ hc63) rfl rfl (by rw [hR]; decide) (by rw [hR]; decide) (Nat.le_of_ble_eq_true rfl) dP_told_63 ?_
      refine wm_if_eq (tgt := 76) E dP_told_66 (by decide) (fun c66 => ?_) (fun c66 => ?_)
      · have h := (if_pos c66).symm.trans h
        refine wm_pick (lv' := [(0, vR v0), (2, vR v2), (3, vI v3), (4, vI v4)]) [0, 1, 2, 3] rfl ?_
        exact w_P_told_76 E hQ hR hI (fun v0 v2 v3 v4 μ => B_P_told_26 n v0 v2 v3 v4 μ) ih v0 v2 v3 v4 m63 h
      · have h := (if_neg c66).symm.trans h
        refine wm_iload_n E dP_told_69 rfl (j := 2) rfl ?_
        refine wm_iconst (x := 1) E dP_told_70 (by decide) ?_
        refine wm_iload E dP_told_71 (j := 3) rfl ?_
        refine wm_ishl E dP_told_73 ?_
        refine wm_ior E dP_told_74 ?_
        refine wm_letI h (fun x75 h => ?_)
        refine wm_istore_n (lv' := [(3, vI x75), (0, vR v0), (2, vR v2), (4, vI v4)]) E dP_told_75 rfl (by decide) rfl ?_
        refine wm_pick (lv' := [(0, vR v0), (2, vR v2), (3, vI x75), (4, vI v4)]) [1, 2, 0, 3] rfl ?_
        exact w_P_told_76 E hQ hR hI (fun v0 v2 v3 v4 μ => B_P_told_26 n v0 v2 v3 v4 μ) ih v0 v2 x75 v4 m63 h
def S_P_told (v0 : Option Nat) (v1 : Int32) (μ : Mem) : Option ((Nat ⊕ Int32) × Mem) := b1 (rc μ v0 11) (fun _ => b1 (S_P_watchOf v0 v1 μ) (fun x2 => if x2 = none then some (.inl 0, μ) else B_P_told_26 fu v0 x2 0 0 μ))
set_option maxHeartbeats 4000000 in
set_option maxRecDepth 100000 in
theorem w_P_told_e {X : CX} (E : EV X prog_1_method_21_code 5 "PlaceFinder" (some .int)) {μ0 μ' : Mem} {r : (Nat ⊕ Int32)} (hQ : RQ2 X 1 6 μ0 (cvI r) μ') (hR : xR X = { frames := 10, cells := 1, slots := 6, locals := 230 }) (hI : X.2.2.2.2.2.2.2.2.2.2.2.1.name = "told") (v0 : Option Nat) (v1 : Int32) (μ : Mem) (h : S_P_told v0 v1 μ = some (r, μ')) : WM X 5 0 [(0, vR v0), (1, vI v1)] [] 0 0 μ := by
  have h : (b1 (rc μ v0 11) (fun _ => b1 (S_P_watchOf v0 v1 μ) (fun x2 => if x2 = none then some (.inl 0, μ) else B_P_told_26 fu v0 x2 0 0 μ))) = some (r, μ') := h
  refine wm_aload_n E dP_told_0 rfl (j := 0) rfl ?_
  refine wm_iload_n E dP_told_1 rfl (j := 1) rfl ?_
  obtain ⟨u2, hr2, h⟩ := b1S h
  obtain ⟨x2, hc2, h⟩ := b1S h
  refine wm_cV (ci := 11) (As := [vI v1]) (st := []) E lk_P_302 rfl im_P_watchOf sl_P_watchOf hr2 (C_P_watchOf (xl X) X.1 v0 v1 μ _ hc2) rfl rfl (by rw [hR]; decide) (by rw [hR]; decide) (Nat.le_of_ble_eq_true rfl) dP_told_2 ?_
  refine wm_astore_n (lv' := [(2, vR x2), (0, vR v0), (1, vI v1)]) E dP_told_5 rfl (by decide) rfl ?_
  refine wm_aload_n E dP_told_6 rfl (j := 0) rfl ?_
  refine wm_ifnonnull (tgt := 21) E dP_told_7 (by decide) (fun c7 => ?_) (fun c7 => ?_)
  · have h := (if_neg c7).symm.trans h
    refine wm_iconst (x := 0) E dP_told_21 (by decide) ?_
    refine wm_istore_n (lv' := [(3, vI 0), (2, vR x2), (0, vR v0), (1, vI v1)]) E dP_told_22 rfl (by decide) rfl ?_
    refine wm_iconst (x := 0) E dP_told_23 (by decide) ?_
    refine wm_istore (lv' := [(4, vI 0), (3, vI 0), (2, vR x2), (0, vR v0), (1, vI v1)]) E dP_told_24 (by decide) rfl ?_
    refine wm_pick (lv' := [(0, vR v0), (2, vR x2), (3, vI 0), (4, vI 0)]) [3, 2, 1, 0] rfl ?_
    exact w_P_told_26 E hQ hR hI fu v0 x2 0 0 μ h
  · have h := (if_pos c7).symm.trans h
    obtain ⟨μs, hX⟩ := rqXI hQ h
    exact wm_throw (ln := 3) (names := exU) (cls := "java/lang/IllegalArgumentException") E tf_P_91_306 hX ⟨(by rw [hR]; decide), by decide⟩ ⟨(by rw [hR]; decide), by decide⟩ (by rw [hR]; decide) (by rw [hR]; decide) (Nat.le_of_ble_eq_true rfl) dP_told_10 dP_told_13 (Or.inr ⟨rfl, dP_told_14⟩) dP_told_17 dP_told_20
theorem C_P_told (l : Launch) (G : GG) (v0 : Option Nat) (v1 : Int32) (μ μ' : Mem) (r : Int32) (h : S_P_told v0 v1 μ = some (.inr r, μ')) : CT l G y_P_told prog_1_method_21_code 5 (some .int) 10 1 6 230 μ [vR v0, vI v1] (some (vI r)) μ' := by
  refine wm_met (lv := [(0, vR v0), (1, vI v1)]) (by decide +kernel) (Nat.le_of_ble_eq_true rfl) rfl (fun X E hQ hR hI => ?_)
  exact w_P_told_e (r := .inr r) E hQ hR hI v0 v1 μ h
theorem X_P_told (l : Launch) (hl : LF l) (G : GG) (v0 : Option Nat) (v1 : Int32) (μ μ' : Mem) (k : Nat) (h : S_P_told v0 v1 (m_up μ) = some (.inl k, μ')) : CZ l G y_P_told prog_1_method_21_code 5 (some .int) 10 1 6 230 μ [vR v0, vI v1] (exN k) := by
  refine wm_metX hl (lv := [(0, vR v0), (1, vI v1)]) (by decide +kernel) (Nat.le_of_ble_eq_true rfl) rfl (fun X E hX hR hI => ?_)
  exact w_P_told_e (μ0 := μ) (r := .inl k) E ⟨μ, hX⟩ hR hI v0 v1 (m_up μ) h
def S_L_place (v0 : Option Nat) (v1 : Int32) (v2 : Option Nat) (μ : Mem) : Option (Int32 × Mem) := b1 (rc μ v0 11) (fun _ => b2 (nrm (S_P_place v0 v1 μ)) (fun x4 m4 => b1 (sL m4 v2 1 0 ((x4 : Int32).toInt64)) (fun m8 => some (0, m8))))
set_option maxHeartbeats 4000000 in
set_option maxRecDepth 100000 in
theorem C_L_place (l : Launch) (G : GG) (v0 : Option Nat) (v1 : Int32) (v2 : Option Nat) (μ μ' : Mem) (r : Int32) (h : S_L_place v0 v1 v2 μ = some (r, μ')) : CW l G y_L_place method_3_code 4 (some .int) [(0, 9, 12, 13), (0, 9, 15, 15)] 8 6 52 212 μ [vR v0, vI v1, vR v2] (some (vI r)) (fun m => m = μ') := by
  refine wm_metW (lv := [(0, vR v0), (1, vI v1), (2, vR v2)]) (by decide +kernel) (Nat.le_of_ble_eq_true rfl) rfl (fun X E hQ0 hTB hXl hXG hR hI => ?_)
  have hQ := rqm hQ0 (μ' := μ') rfl
  have h : (b1 (rc μ v0 11) (fun _ => b2 (nrm (S_P_place v0 v1 μ)) (fun x4 m4 => b1 (sL m4 v2 1 0 ((x4 : Int32).toInt64)) (fun m8 => some (0, m8))))) = some (r, μ') := h
  refine wm_aload_n E dL_place_0 rfl (j := 2) rfl ?_
  refine wm_iconst (x := 0) E dL_place_1 (by decide) ?_
  refine wm_aload_n E dL_place_2 rfl (j := 0) rfl ?_
  refine wm_iload_n E dL_place_3 rfl (j := 1) rfl ?_
  obtain ⟨u4, hr4, h⟩ := b1S h
  obtain ⟨x4, m4, hc4, h⟩ := b2S h
  refine wm_cV (ci := 11) (As := [vI v1]) (st := [vI 0, vR v2]) E lk_L_7 rfl im_P_place sl_P_place hr4 (C_P_place (xl X) X.1 v0 v1 μ _ _ (nrmS hc4)) rfl rfl (by rw [hR]; decide) (by rw [hR]; decide) (Nat.le_of_ble_eq_true rfl) dL_place_4 ?_
  refine wm_i2l E dL_place_7 ?_
  refine wm_last (t := 1) E rfl h dL_place_8 (fun m8 h => ?_)
  refine wm_goto (tgt := 18) E dL_place_9 (by decide) ?_
  refine wm_iconst (x := 0) E dL_place_18 (by decide) ?_
  exact wm_iret (rt := .int) E hQ (rtI h) (rtM h) (by decide) (by decide) dL_place_19
set_option maxHeartbeats 4000000 in
set_option maxRecDepth 100000 in
theorem X_L_place_0 (l : Launch) (hl : LF l) (G : GG) (v0 : Option Nat) (v1 : Int32) (v2 : Option Nat) (μ μx : Mem) {u : Unit} (hr : rc μ v0 11 = some u) (h : S_P_place v0 v1 (m_up μ) = some (.inl 0, μx)) : CW l G y_L_place method_3_code 4 (some .int) [(0, 9, 12, 13), (0, 9, 15, 15)] 8 6 52 212 μ [vR v0, vI v1, vR v2] (some (vI 1)) (fun m => ∃ M9, mN μ ≤ M9 ∧ m = m_grow μ M9) := by
  refine wm_metW (lv := [(0, vR v0), (1, vI v1), (2, vR v2)]) (by decide +kernel) (Nat.le_of_ble_eq_true rfl) rfl (fun X E hQ0 hTB hXl hXG hR hI => ?_)
  refine wm_aload_n E dL_place_0 rfl (j := 2) rfl ?_
  refine wm_iconst (x := 0) E dL_place_1 (by decide) ?_
  refine wm_aload_n E dL_place_2 rfl (j := 0) rfl ?_
  refine wm_iload_n E dL_place_3 rfl (j := 1) rfl ?_
  refine wm_cVX (ci := 11) (As := [vI v1]) (st := [vI 0, vR v2]) E hTB lk_L_7 ml_L_7 rfl im_P_place sl_P_place hr (X_P_place (xl X) (by rw [hXl]; exact hl) X.1 v0 v1 μ μx 0 h) rfl rfl (by rw [hR]; decide) (by rw [hR]; decide) (Nat.le_of_ble_eq_true rfl) dL_place_4 [] (0, 9, 12, 13) [(0, 9, 15, 15)] rfl (fun z h => nomatch h) (by decide) (by decide) cl_L_13 ca_ex0 (fun M9 a9 hM9 => ?_)
  refine wm_astore_n (lv' := [(3, vR ((some a9))), (0, vR v0), (1, vI v1), (2, vR v2)]) E dL_place_12 rfl (by decide) rfl ?_
  refine wm_iconst (x := 1) E dL_place_13 (by decide) ?_
  exact wm_iret (rt := .int) E (rqm hQ0 ⟨M9, hM9, rfl⟩) rfl rfl (by decide) (by decide) dL_place_14
set_option maxHeartbeats 4000000 in
set_option maxRecDepth 100000 in
theorem X_L_place_1 (l : Launch) (hl : LF l) (G : GG) (v0 : Option Nat) (v1 : Int32) (v2 : Option Nat) (μ μx : Mem) {u : Unit} (hr : rc μ v0 11 = some u) (h : S_P_place v0 v1 (m_up μ) = some (.inl 1, μx)) : CW l G y_L_place method_3_code 4 (some .int) [(0, 9, 12, 13), (0, 9, 15, 15)] 8 6 52 212 μ [vR v0, vI v1, vR v2] (some (vI 2)) (fun m => ∃ M9, mN μ ≤ M9 ∧ m = m_grow μ M9) := by
  refine wm_metW (lv := [(0, vR v0), (1, vI v1), (2, vR v2)]) (by decide +kernel) (Nat.le_of_ble_eq_true rfl) rfl (fun X E hQ0 hTB hXl hXG hR hI => ?_)
  refine wm_aload_n E dL_place_0 rfl (j := 2) rfl ?_
  refine wm_iconst (x := 0) E dL_place_1 (by decide) ?_
  refine wm_aload_n E dL_place_2 rfl (j := 0) rfl ?_
  refine wm_iload_n E dL_place_3 rfl (j := 1) rfl ?_
  refine wm_cVX (ci := 11) (As := [vI v1]) (st := [vI 0, vR v2]) E hTB lk_L_7 ml_L_7 rfl im_P_place sl_P_place hr (X_P_place (xl X) (by rw [hXl]; exact hl) X.1 v0 v1 μ μx 1 h) rfl rfl (by rw [hR]; decide) (by rw [hR]; decide) (Nat.le_of_ble_eq_true rfl) dL_place_4 [(0, 9, 12, 13)] (0, 9, 15, 15) [] rfl (List.forall_mem_cons.mpr ⟨Or.inr ⟨by decide, _, cl_L_13, by decide⟩, fun z h => nomatch h⟩) (by decide) (by decide) cl_L_15 ca_ex1 (fun M9 a9 hM9 => ?_)
  refine wm_astore_n (lv' := [(3, vR ((some a9))), (0, vR v0), (1, vI v1), (2, vR v2)]) E dL_place_15 rfl (by decide) rfl ?_
  refine wm_iconst (x := 2) E dL_place_16 (by decide) ?_
  exact wm_iret (rt := .int) E (rqm hQ0 ⟨M9, hM9, rfl⟩) rfl rfl (by decide) (by decide) dL_place_17
def S_L_corner (v0 : Option Nat) (v1 : Int32) (v2 : Int32) (v3 : Option Nat) (μ : Mem) : Option (Int32 × Mem) := b1 (rc μ v0 11) (fun _ => b2 (nrm (S_P_corner v0 v1 v2 μ)) (fun x5 m5 => b1 (sL m5 v3 1 0 ((x5 : Int32).toInt64)) (fun m9 => some (0, m9))))
set_option maxHeartbeats 4000000 in
set_option maxRecDepth 100000 in
theorem C_L_corner (l : Launch) (G : GG) (v0 : Option Nat) (v1 : Int32) (v2 : Int32) (v3 : Option Nat) (μ μ' : Mem) (r : Int32) (h : S_L_corner v0 v1 v2 v3 μ = some (r, μ')) : CW l G y_L_corner method_4_code 5 (some .int) [(0, 10, 13, 13), (0, 10, 17, 15)] 7 1 6 121 μ [vR v0, vI v1, vI v2, vR v3] (some (vI r)) (fun m => m = μ') := by
  refine wm_metW (lv := [(0, vR v0), (1, vI v1), (2, vI v2), (3, vR v3)]) (by decide +kernel) (Nat.le_of_ble_eq_true rfl) rfl (fun X E hQ0 hTB hXl hXG hR hI => ?_)
  have hQ := rqm hQ0 (μ' := μ') rfl
  have h : (b1 (rc μ v0 11) (fun _ => b2 (nrm (S_P_corner v0 v1 v2 μ)) (fun x5 m5 => b1 (sL m5 v3 1 0 ((x5 : Int32).toInt64)) (fun m9 => some (0, m9))))) = some (r, μ') := h
  refine wm_aload_n E dL_corner_0 rfl (j := 3) rfl ?_
  refine wm_iconst (x := 0) E dL_corner_1 (by decide) ?_
  refine wm_aload_n E dL_corner_2 rfl (j := 0) rfl ?_
  refine wm_iload_n E dL_corner_3 rfl (j := 1) rfl ?_
  refine wm_iload_n E dL_corner_4 rfl (j := 2) rfl ?_
  obtain ⟨u5, hr5, h⟩ := b1S h
  obtain ⟨x5, m5, hc5, h⟩ := b2S h
  refine wm_cV (ci := 11) (As := [vI v1, vI v2]) (st := [vI 0, vR v3]) E lk_L_17 rfl im_P_corner sl_P_corner hr5 (C_P_corner (xl X) X.1 v0 v1 v2 μ _ _ (nrmS hc5)) rfl rfl (by rw [hR]; decide) (by rw [hR]; decide) (Nat.le_of_ble_eq_true rfl) dL_corner_5 ?_
  refine wm_i2l E dL_corner_8 ?_
  refine wm_last (t := 1) E rfl h dL_corner_9 (fun m9 h => ?_)
  refine wm_goto (tgt := 21) E dL_corner_10 (by decide) ?_
  refine wm_iconst (x := 0) E dL_corner_21 (by decide) ?_
  exact wm_iret (rt := .int) E hQ (rtI h) (rtM h) (by decide) (by decide) dL_corner_22
set_option maxHeartbeats 4000000 in
set_option maxRecDepth 100000 in
theorem X_L_corner_0 (l : Launch) (hl : LF l) (G : GG) (v0 : Option Nat) (v1 : Int32) (v2 : Int32) (v3 : Option Nat) (μ μx : Mem) {u : Unit} (hr : rc μ v0 11 = some u) (h : S_P_corner v0 v1 v2 (m_up μ) = some (.inl 0, μx)) : CW l G y_L_corner method_4_code 5 (some .int) [(0, 10, 13, 13), (0, 10, 17, 15)] 7 1 6 121 μ [vR v0, vI v1, vI v2, vR v3] (some (vI 1)) (fun m => ∃ M9, mN μ ≤ M9 ∧ m = m_grow μ M9) := by
  refine wm_metW (lv := [(0, vR v0), (1, vI v1), (2, vI v2), (3, vR v3)]) (by decide +kernel) (Nat.le_of_ble_eq_true rfl) rfl (fun X E hQ0 hTB hXl hXG hR hI => ?_)
  refine wm_aload_n E dL_corner_0 rfl (j := 3) rfl ?_
  refine wm_iconst (x := 0) E dL_corner_1 (by decide) ?_
  refine wm_aload_n E dL_corner_2 rfl (j := 0) rfl ?_
  refine wm_iload_n E dL_corner_3 rfl (j := 1) rfl ?_
  refine wm_iload_n E dL_corner_4 rfl (j := 2) rfl ?_
  refine wm_cVX (ci := 11) (As := [vI v1, vI v2]) (st := [vI 0, vR v3]) E hTB lk_L_17 ml_L_17 rfl im_P_corner sl_P_corner hr (X_P_corner (xl X) (by rw [hXl]; exact hl) X.1 v0 v1 v2 μ μx 0 h) rfl rfl (by rw [hR]; decide) (by rw [hR]; decide) (Nat.le_of_ble_eq_true rfl) dL_corner_5 [] (0, 10, 13, 13) [(0, 10, 17, 15)] rfl (fun z h => nomatch h) (by decide) (by decide) cl_L_13 ca_ex0 (fun M9 a9 hM9 => ?_)
  refine wm_astore (lv' := [(4, vR ((some a9))), (0, vR v0), (1, vI v1), (2, vI v2), (3, vR v3)]) E dL_corner_13 (by decide) rfl ?_
  refine wm_iconst (x := 1) E dL_corner_15 (by decide) ?_
  exact wm_iret (rt := .int) E (rqm hQ0 ⟨M9, hM9, rfl⟩) rfl rfl (by decide) (by decide) dL_corner_16
set_option maxHeartbeats 4000000 in
set_option maxRecDepth 100000 in
theorem X_L_corner_1 (l : Launch) (hl : LF l) (G : GG) (v0 : Option Nat) (v1 : Int32) (v2 : Int32) (v3 : Option Nat) (μ μx : Mem) {u : Unit} (hr : rc μ v0 11 = some u) (h : S_P_corner v0 v1 v2 (m_up μ) = some (.inl 1, μx)) : CW l G y_L_corner method_4_code 5 (some .int) [(0, 10, 13, 13), (0, 10, 17, 15)] 7 1 6 121 μ [vR v0, vI v1, vI v2, vR v3] (some (vI 2)) (fun m => ∃ M9, mN μ ≤ M9 ∧ m = m_grow μ M9) := by
  refine wm_metW (lv := [(0, vR v0), (1, vI v1), (2, vI v2), (3, vR v3)]) (by decide +kernel) (Nat.le_of_ble_eq_true rfl) rfl (fun X E hQ0 hTB hXl hXG hR hI => ?_)
  refine wm_aload_n E dL_corner_0 rfl (j := 3) rfl ?_
  refine wm_iconst (x := 0) E dL_corner_1 (by decide) ?_
  refine wm_aload_n E dL_corner_2 rfl (j := 0) rfl ?_
  refine wm_iload_n E dL_corner_3 rfl (j := 1) rfl ?_
  refine wm_iload_n E dL_corner_4 rfl (j := 2) rfl ?_
  refine wm_cVX (ci := 11) (As := [vI v1, vI v2]) (st := [vI 0, vR v3]) E hTB lk_L_17 ml_L_17 rfl im_P_corner sl_P_corner hr (X_P_corner (xl X) (by rw [hXl]; exact hl) X.1 v0 v1 v2 μ μx 1 h) rfl rfl (by rw [hR]; decide) (by rw [hR]; decide) (Nat.le_of_ble_eq_true rfl) dL_corner_5 [(0, 10, 13, 13)] (0, 10, 17, 15) [] rfl (List.forall_mem_cons.mpr ⟨Or.inr ⟨by decide, _, cl_L_13, by decide⟩, fun z h => nomatch h⟩) (by decide) (by decide) cl_L_15 ca_ex1 (fun M9 a9 hM9 => ?_)
  refine wm_astore (lv' := [(4, vR ((some a9))), (0, vR v0), (1, vI v1), (2, vI v2), (3, vR v3)]) E dL_corner_17 (by decide) rfl ?_
  refine wm_iconst (x := 2) E dL_corner_19 (by decide) ?_
  exact wm_iret (rt := .int) E (rqm hQ0 ⟨M9, hM9, rfl⟩) rfl rfl (by decide) (by decide) dL_corner_20
def S_L_shape (v0 : Option Nat) (v1 : Int32) (v2 : Int32) (μ : Mem) : Option (Int32 × Mem) := b1 (rc μ v0 11) (fun _ => b2 (nrm (S_P_shape v0 v1 v2 μ)) (fun x3 m3 => some (0, m3)))
set_option maxHeartbeats 4000000 in
set_option maxRecDepth 100000 in
theorem C_L_shape (l : Launch) (G : GG) (v0 : Option Nat) (v1 : Int32) (v2 : Int32) (μ μ' : Mem) (r : Int32) (h : S_L_shape v0 v1 v2 μ = some (r, μ')) : CW l G y_L_shape method_5_code 4 (some .int) [(0, 6, 9, 13), (0, 6, 12, 15)] 9 4 52 237 μ [vR v0, vI v1, vI v2] (some (vI r)) (fun m => m = μ') := by
  refine wm_metW (lv := [(0, vR v0), (1, vI v1), (2, vI v2)]) (by decide +kernel) (Nat.le_of_ble_eq_true rfl) rfl (fun X E hQ0 hTB hXl hXG hR hI => ?_)
  have hQ := rqm hQ0 (μ' := μ') rfl
  have h : (b1 (rc μ v0 11) (fun _ => b2 (nrm (S_P_shape v0 v1 v2 μ)) (fun x3 m3 => some (0, m3)))) = some (r, μ') := h
  refine wm_aload_n E dL_shape_0 rfl (j := 0) rfl ?_
  refine wm_iload_n E dL_shape_1 rfl (j := 1) rfl ?_
  refine wm_iload_n E dL_shape_2 rfl (j := 2) rfl ?_
  obtain ⟨u3, hr3, h⟩ := b1S h
  obtain ⟨x3, m3, hc3, h⟩ := b2S h
  refine wm_cV (ci := 11) (As := [vI v1, vI v2]) (st := []) E lk_L_21 rfl im_P_shape sl_P_shape hr3 (C_P_shape (xl X) X.1 v0 v1 v2 μ _ _ (nrmS hc3)) rfl rfl (by rw [hR]; decide) (by rw [hR]; decide) (Nat.le_of_ble_eq_true rfl) dL_shape_3 ?_
  refine wm_goto (tgt := 15) E dL_shape_6 (by decide) ?_
  refine wm_iconst (x := 0) E dL_shape_15 (by decide) ?_
  exact wm_iret (rt := .int) E hQ (rtI h) (rtM h) (by decide) (by decide) dL_shape_16
set_option maxHeartbeats 4000000 in
set_option maxRecDepth 100000 in
theorem X_L_shape_0 (l : Launch) (hl : LF l) (G : GG) (v0 : Option Nat) (v1 : Int32) (v2 : Int32) (μ μx : Mem) {u : Unit} (hr : rc μ v0 11 = some u) (h : S_P_shape v0 v1 v2 (m_up μ) = some (.inl 0, μx)) : CW l G y_L_shape method_5_code 4 (some .int) [(0, 6, 9, 13), (0, 6, 12, 15)] 9 4 52 237 μ [vR v0, vI v1, vI v2] (some (vI 1)) (fun m => ∃ M9, mN μ ≤ M9 ∧ m = m_grow μ M9) := by
  refine wm_metW (lv := [(0, vR v0), (1, vI v1), (2, vI v2)]) (by decide +kernel) (Nat.le_of_ble_eq_true rfl) rfl (fun X E hQ0 hTB hXl hXG hR hI => ?_)
  refine wm_aload_n E dL_shape_0 rfl (j := 0) rfl ?_
  refine wm_iload_n E dL_shape_1 rfl (j := 1) rfl ?_
  refine wm_iload_n E dL_shape_2 rfl (j := 2) rfl ?_
  refine wm_cVX (ci := 11) (As := [vI v1, vI v2]) (st := []) E hTB lk_L_21 ml_L_21 rfl im_P_shape sl_P_shape hr (X_P_shape (xl X) (by rw [hXl]; exact hl) X.1 v0 v1 v2 μ μx 0 h) rfl rfl (by rw [hR]; decide) (by rw [hR]; decide) (Nat.le_of_ble_eq_true rfl) dL_shape_3 [] (0, 6, 9, 13) [(0, 6, 12, 15)] rfl (fun z h => nomatch h) (by decide) (by decide) cl_L_13 ca_ex0 (fun M9 a9 hM9 => ?_)
  refine wm_astore_n (lv' := [(3, vR ((some a9))), (0, vR v0), (1, vI v1), (2, vI v2)]) E dL_shape_9 rfl (by decide) rfl ?_
  refine wm_iconst (x := 1) E dL_shape_10 (by decide) ?_
  exact wm_iret (rt := .int) E (rqm hQ0 ⟨M9, hM9, rfl⟩) rfl rfl (by decide) (by decide) dL_shape_11
set_option maxHeartbeats 4000000 in
set_option maxRecDepth 100000 in
theorem X_L_shape_1 (l : Launch) (hl : LF l) (G : GG) (v0 : Option Nat) (v1 : Int32) (v2 : Int32) (μ μx : Mem) {u : Unit} (hr : rc μ v0 11 = some u) (h : S_P_shape v0 v1 v2 (m_up μ) = some (.inl 1, μx)) : CW l G y_L_shape method_5_code 4 (some .int) [(0, 6, 9, 13), (0, 6, 12, 15)] 9 4 52 237 μ [vR v0, vI v1, vI v2] (some (vI 2)) (fun m => ∃ M9, mN μ ≤ M9 ∧ m = m_grow μ M9) := by
  refine wm_metW (lv := [(0, vR v0), (1, vI v1), (2, vI v2)]) (by decide +kernel) (Nat.le_of_ble_eq_true rfl) rfl (fun X E hQ0 hTB hXl hXG hR hI => ?_)
  refine wm_aload_n E dL_shape_0 rfl (j := 0) rfl ?_
  refine wm_iload_n E dL_shape_1 rfl (j := 1) rfl ?_
  refine wm_iload_n E dL_shape_2 rfl (j := 2) rfl ?_
  refine wm_cVX (ci := 11) (As := [vI v1, vI v2]) (st := []) E hTB lk_L_21 ml_L_21 rfl im_P_shape sl_P_shape hr (X_P_shape (xl X) (by rw [hXl]; exact hl) X.1 v0 v1 v2 μ μx 1 h) rfl rfl (by rw [hR]; decide) (by rw [hR]; decide) (Nat.le_of_ble_eq_true rfl) dL_shape_3 [(0, 6, 9, 13)] (0, 6, 12, 15) [] rfl (List.forall_mem_cons.mpr ⟨Or.inr ⟨by decide, _, cl_L_13, by decide⟩, fun z h => nomatch h⟩) (by decide) (by decide) cl_L_15 ca_ex1 (fun M9 a9 hM9 => ?_)
  refine wm_astore_n (lv' := [(3, vR ((some a9))), (0, vR v0), (1, vI v1), (2, vI v2)]) E dL_shape_12 rfl (by decide) rfl ?_
  refine wm_iconst (x := 2) E dL_shape_13 (by decide) ?_
  exact wm_iret (rt := .int) E (rqm hQ0 ⟨M9, hM9, rfl⟩) rfl rfl (by decide) (by decide) dL_shape_14
def S_L_name (v0 : Option Nat) (v1 : Int32) (v2 : Int32) (v3 : Int32) (μ : Mem) : Option (Int32 × Mem) := b1 (rc μ v0 11) (fun _ => b2 (nrm (S_P_name v0 v1 v2 v3 μ)) (fun x4 m4 => some (0, m4)))
set_option maxHeartbeats 4000000 in
set_option maxRecDepth 100000 in
theorem C_L_name (l : Launch) (G : GG) (v0 : Option Nat) (v1 : Int32) (v2 : Int32) (v3 : Int32) (μ μ' : Mem) (r : Int32) (h : S_L_name v0 v1 v2 v3 μ = some (r, μ')) : CW l G y_L_name method_6_code 5 (some .int) [(0, 7, 10, 13), (0, 7, 14, 15)] 8 4 48 215 μ [vR v0, vI v1, vI v2, vI v3] (some (vI r)) (fun m => m = μ') := by
  refine wm_metW (lv := [(0, vR v0), (1, vI v1), (2, vI v2), (3, vI v3)]) (by decide +kernel) (Nat.le_of_ble_eq_true rfl) rfl (fun X E hQ0 hTB hXl hXG hR hI => ?_)
  have hQ := rqm hQ0 (μ' := μ') rfl
  have h : (b1 (rc μ v0 11) (fun _ => b2 (nrm (S_P_name v0 v1 v2 v3 μ)) (fun x4 m4 => some (0, m4)))) = some (r, μ') := h
  refine wm_aload_n E dL_name_0 rfl (j := 0) rfl ?_
  refine wm_iload_n E dL_name_1 rfl (j := 1) rfl ?_
  refine wm_iload_n E dL_name_2 rfl (j := 2) rfl ?_
  refine wm_iload_n E dL_name_3 rfl (j := 3) rfl ?_
  obtain ⟨u4, hr4, h⟩ := b1S h
  obtain ⟨x4, m4, hc4, h⟩ := b2S h
  refine wm_cV (ci := 11) (As := [vI v1, vI v2, vI v3]) (st := []) E lk_L_25 rfl im_P_name sl_P_name hr4 (C_P_name (xl X) X.1 v0 v1 v2 v3 μ _ _ (nrmS hc4)) rfl rfl (by rw [hR]; decide) (by rw [hR]; decide) (Nat.le_of_ble_eq_true rfl) dL_name_4 ?_
  refine wm_goto (tgt := 18) E dL_name_7 (by decide) ?_
  refine wm_iconst (x := 0) E dL_name_18 (by decide) ?_
  exact wm_iret (rt := .int) E hQ (rtI h) (rtM h) (by decide) (by decide) dL_name_19
set_option maxHeartbeats 4000000 in
set_option maxRecDepth 100000 in
theorem X_L_name_0 (l : Launch) (hl : LF l) (G : GG) (v0 : Option Nat) (v1 : Int32) (v2 : Int32) (v3 : Int32) (μ μx : Mem) {u : Unit} (hr : rc μ v0 11 = some u) (h : S_P_name v0 v1 v2 v3 (m_up μ) = some (.inl 0, μx)) : CW l G y_L_name method_6_code 5 (some .int) [(0, 7, 10, 13), (0, 7, 14, 15)] 8 4 48 215 μ [vR v0, vI v1, vI v2, vI v3] (some (vI 1)) (fun m => ∃ M9, mN μ ≤ M9 ∧ m = m_grow μ M9) := by
  refine wm_metW (lv := [(0, vR v0), (1, vI v1), (2, vI v2), (3, vI v3)]) (by decide +kernel) (Nat.le_of_ble_eq_true rfl) rfl (fun X E hQ0 hTB hXl hXG hR hI => ?_)
  refine wm_aload_n E dL_name_0 rfl (j := 0) rfl ?_
  refine wm_iload_n E dL_name_1 rfl (j := 1) rfl ?_
  refine wm_iload_n E dL_name_2 rfl (j := 2) rfl ?_
  refine wm_iload_n E dL_name_3 rfl (j := 3) rfl ?_
  refine wm_cVX (ci := 11) (As := [vI v1, vI v2, vI v3]) (st := []) E hTB lk_L_25 ml_L_25 rfl im_P_name sl_P_name hr (X_P_name (xl X) (by rw [hXl]; exact hl) X.1 v0 v1 v2 v3 μ μx 0 h) rfl rfl (by rw [hR]; decide) (by rw [hR]; decide) (Nat.le_of_ble_eq_true rfl) dL_name_4 [] (0, 7, 10, 13) [(0, 7, 14, 15)] rfl (fun z h => nomatch h) (by decide) (by decide) cl_L_13 ca_ex0 (fun M9 a9 hM9 => ?_)
  refine wm_astore (lv' := [(4, vR ((some a9))), (0, vR v0), (1, vI v1), (2, vI v2), (3, vI v3)]) E dL_name_10 (by decide) rfl ?_
  refine wm_iconst (x := 1) E dL_name_12 (by decide) ?_
  exact wm_iret (rt := .int) E (rqm hQ0 ⟨M9, hM9, rfl⟩) rfl rfl (by decide) (by decide) dL_name_13
set_option maxHeartbeats 4000000 in
set_option maxRecDepth 100000 in
theorem X_L_name_1 (l : Launch) (hl : LF l) (G : GG) (v0 : Option Nat) (v1 : Int32) (v2 : Int32) (v3 : Int32) (μ μx : Mem) {u : Unit} (hr : rc μ v0 11 = some u) (h : S_P_name v0 v1 v2 v3 (m_up μ) = some (.inl 1, μx)) : CW l G y_L_name method_6_code 5 (some .int) [(0, 7, 10, 13), (0, 7, 14, 15)] 8 4 48 215 μ [vR v0, vI v1, vI v2, vI v3] (some (vI 2)) (fun m => ∃ M9, mN μ ≤ M9 ∧ m = m_grow μ M9) := by
  refine wm_metW (lv := [(0, vR v0), (1, vI v1), (2, vI v2), (3, vI v3)]) (by decide +kernel) (Nat.le_of_ble_eq_true rfl) rfl (fun X E hQ0 hTB hXl hXG hR hI => ?_)
  refine wm_aload_n E dL_name_0 rfl (j := 0) rfl ?_
  refine wm_iload_n E dL_name_1 rfl (j := 1) rfl ?_
  refine wm_iload_n E dL_name_2 rfl (j := 2) rfl ?_
  refine wm_iload_n E dL_name_3 rfl (j := 3) rfl ?_
  refine wm_cVX (ci := 11) (As := [vI v1, vI v2, vI v3]) (st := []) E hTB lk_L_25 ml_L_25 rfl im_P_name sl_P_name hr (X_P_name (xl X) (by rw [hXl]; exact hl) X.1 v0 v1 v2 v3 μ μx 1 h) rfl rfl (by rw [hR]; decide) (by rw [hR]; decide) (Nat.le_of_ble_eq_true rfl) dL_name_4 [(0, 7, 10, 13)] (0, 7, 14, 15) [] rfl (List.forall_mem_cons.mpr ⟨Or.inr ⟨by decide, _, cl_L_13, by decide⟩, fun z h => nomatch h⟩) (by decide) (by decide) cl_L_15 ca_ex1 (fun M9 a9 hM9 => ?_)
  refine wm_astore (lv' := [(4, vR ((some a9))), (0, vR v0), (1, vI v1), (2, vI v2), (3, vI v3)]) E dL_name_14 (by decide) rfl ?_
  refine wm_iconst (x := 2) E dL_name_16 (by decide) ?_
  exact wm_iret (rt := .int) E (rqm hQ0 ⟨M9, hM9, rfl⟩) rfl rfl (by decide) (by decide) dL_name_17
def S_L_parent (v0 : Option Nat) (v1 : Int32) (v2 : Int32) (v3 : Int32) (v4 : Int32) (μ : Mem) : Option (Int32 × Mem) := b1 (rc μ v0 11) (fun _ => b2 (nrm (S_P_parent v0 v1 v2 v3 v4 μ)) (fun x6 m6 => some (0, m6)))
set_option maxHeartbeats 4000000 in
set_option maxRecDepth 100000 in
theorem C_L_parent (l : Launch) (G : GG) (v0 : Option Nat) (v1 : Int32) (v2 : Int32) (v3 : Int32) (v4 : Int32) (μ μ' : Mem) (r : Int32) (h : S_L_parent v0 v1 v2 v3 v4 μ = some (r, μ')) : CW l G y_L_parent method_7_code 6 (some .int) [(0, 9, 12, 13), (0, 9, 16, 33), (0, 9, 20, 15)] 39 2 36 1150 μ [vR v0, vI v1, vI v2, vI v3, vI v4] (some (vI r)) (fun m => m = μ') := by
  refine wm_metW (lv := [(0, vR v0), (1, vI v1), (2, vI v2), (3, vI v3), (4, vI v4)]) (by decide +kernel) (Nat.le_of_ble_eq_true rfl) rfl (fun X E hQ0 hTB hXl hXG hR hI => ?_)
  have hQ := rqm hQ0 (μ' := μ') rfl
  have h : (b1 (rc μ v0 11) (fun _ => b2 (nrm (S_P_parent v0 v1 v2 v3 v4 μ)) (fun x6 m6 => some (0, m6)))) = some (r, μ') := h
  refine wm_aload_n E dL_parent_0 rfl (j := 0) rfl ?_
  refine wm_iload_n E dL_parent_1 rfl (j := 1) rfl ?_
  refine wm_iload_n E dL_parent_2 rfl (j := 2) rfl ?_
  refine wm_iload_n E dL_parent_3 rfl (j := 3) rfl ?_
  refine wm_iload E dL_parent_4 (j := 4) rfl ?_
  obtain ⟨u6, hr6, h⟩ := b1S h
  obtain ⟨x6, m6, hc6, h⟩ := b2S h
  refine wm_cV (ci := 11) (As := [vI v1, vI v2, vI v3, vI v4]) (st := []) E lk_L_29 rfl im_P_parent sl_P_parent hr6 (C_P_parent (xl X) X.1 v0 v1 v2 v3 v4 μ _ _ (nrmS hc6)) rfl rfl (by rw [hR]; decide) (by rw [hR]; decide) (Nat.le_of_ble_eq_true rfl) dL_parent_6 ?_
  refine wm_goto (tgt := 24) E dL_parent_9 (by decide) ?_
  refine wm_iconst (x := 0) E dL_parent_24 (by decide) ?_
  exact wm_iret (rt := .int) E hQ (rtI h) (rtM h) (by decide) (by decide) dL_parent_25
set_option maxHeartbeats 4000000 in
set_option maxRecDepth 100000 in
theorem X_L_parent_0 (l : Launch) (hl : LF l) (G : GG) (v0 : Option Nat) (v1 : Int32) (v2 : Int32) (v3 : Int32) (v4 : Int32) (μ μx : Mem) {u : Unit} (hr : rc μ v0 11 = some u) (h : S_P_parent v0 v1 v2 v3 v4 (m_up μ) = some (.inl 0, μx)) : CW l G y_L_parent method_7_code 6 (some .int) [(0, 9, 12, 13), (0, 9, 16, 33), (0, 9, 20, 15)] 39 2 36 1150 μ [vR v0, vI v1, vI v2, vI v3, vI v4] (some (vI 1)) (fun m => ∃ M9, mN μ ≤ M9 ∧ m = m_grow μ M9) := by
  refine wm_metW (lv := [(0, vR v0), (1, vI v1), (2, vI v2), (3, vI v3), (4, vI v4)]) (by decide +kernel) (Nat.le_of_ble_eq_true rfl) rfl (fun X E hQ0 hTB hXl hXG hR hI => ?_)
  refine wm_aload_n E dL_parent_0 rfl (j := 0) rfl ?_
  refine wm_iload_n E dL_parent_1 rfl (j := 1) rfl ?_
  refine wm_iload_n E dL_parent_2 rfl (j := 2) rfl ?_
  refine wm_iload_n E dL_parent_3 rfl (j := 3) rfl ?_
  refine wm_iload E dL_parent_4 (j := 4) rfl ?_
  refine wm_cVX (ci := 11) (As := [vI v1, vI v2, vI v3, vI v4]) (st := []) E hTB lk_L_29 ml_L_29 rfl im_P_parent sl_P_parent hr (X_P_parent (xl X) (by rw [hXl]; exact hl) X.1 v0 v1 v2 v3 v4 μ μx 0 h) rfl rfl (by rw [hR]; decide) (by rw [hR]; decide) (Nat.le_of_ble_eq_true rfl) dL_parent_6 [] (0, 9, 12, 13) [(0, 9, 16, 33), (0, 9, 20, 15)] rfl (fun z h => nomatch h) (by decide) (by decide) cl_L_13 ca_ex0 (fun M9 a9 hM9 => ?_)
  refine wm_astore (lv' := [(5, vR ((some a9))), (0, vR v0), (1, vI v1), (2, vI v2), (3, vI v3), (4, vI v4)]) E dL_parent_12 (by decide) rfl ?_
  refine wm_iconst (x := 1) E dL_parent_14 (by decide) ?_
  exact wm_iret (rt := .int) E (rqm hQ0 ⟨M9, hM9, rfl⟩) rfl rfl (by decide) (by decide) dL_parent_15
set_option maxHeartbeats 4000000 in
set_option maxRecDepth 100000 in
theorem X_L_parent_2 (l : Launch) (hl : LF l) (G : GG) (v0 : Option Nat) (v1 : Int32) (v2 : Int32) (v3 : Int32) (v4 : Int32) (μ μx : Mem) {u : Unit} (hr : rc μ v0 11 = some u) (h : S_P_parent v0 v1 v2 v3 v4 (m_up μ) = some (.inl 2, μx)) : CW l G y_L_parent method_7_code 6 (some .int) [(0, 9, 12, 13), (0, 9, 16, 33), (0, 9, 20, 15)] 39 2 36 1150 μ [vR v0, vI v1, vI v2, vI v3, vI v4] (some (vI 2)) (fun m => ∃ M9, mN μ ≤ M9 ∧ m = m_grow μ M9) := by
  refine wm_metW (lv := [(0, vR v0), (1, vI v1), (2, vI v2), (3, vI v3), (4, vI v4)]) (by decide +kernel) (Nat.le_of_ble_eq_true rfl) rfl (fun X E hQ0 hTB hXl hXG hR hI => ?_)
  refine wm_aload_n E dL_parent_0 rfl (j := 0) rfl ?_
  refine wm_iload_n E dL_parent_1 rfl (j := 1) rfl ?_
  refine wm_iload_n E dL_parent_2 rfl (j := 2) rfl ?_
  refine wm_iload_n E dL_parent_3 rfl (j := 3) rfl ?_
  refine wm_iload E dL_parent_4 (j := 4) rfl ?_
  refine wm_cVX (ci := 11) (As := [vI v1, vI v2, vI v3, vI v4]) (st := []) E hTB lk_L_29 ml_L_29 rfl im_P_parent sl_P_parent hr (X_P_parent (xl X) (by rw [hXl]; exact hl) X.1 v0 v1 v2 v3 v4 μ μx 2 h) rfl rfl (by rw [hR]; decide) (by rw [hR]; decide) (Nat.le_of_ble_eq_true rfl) dL_parent_6 [(0, 9, 12, 13)] (0, 9, 16, 33) [(0, 9, 20, 15)] rfl (List.forall_mem_cons.mpr ⟨Or.inr ⟨by decide, _, cl_L_13, by decide⟩, fun z h => nomatch h⟩) (by decide) (by decide) cl_L_33 ca_ex2 (fun M9 a9 hM9 => ?_)
  refine wm_astore (lv' := [(5, vR ((some a9))), (0, vR v0), (1, vI v1), (2, vI v2), (3, vI v3), (4, vI v4)]) E dL_parent_16 (by decide) rfl ?_
  refine wm_iconst (x := 2) E dL_parent_18 (by decide) ?_
  exact wm_iret (rt := .int) E (rqm hQ0 ⟨M9, hM9, rfl⟩) rfl rfl (by decide) (by decide) dL_parent_19
set_option maxHeartbeats 4000000 in
set_option maxRecDepth 100000 in
theorem X_L_parent_1 (l : Launch) (hl : LF l) (G : GG) (v0 : Option Nat) (v1 : Int32) (v2 : Int32) (v3 : Int32) (v4 : Int32) (μ μx : Mem) {u : Unit} (hr : rc μ v0 11 = some u) (h : S_P_parent v0 v1 v2 v3 v4 (m_up μ) = some (.inl 1, μx)) : CW l G y_L_parent method_7_code 6 (some .int) [(0, 9, 12, 13), (0, 9, 16, 33), (0, 9, 20, 15)] 39 2 36 1150 μ [vR v0, vI v1, vI v2, vI v3, vI v4] (some (vI 3)) (fun m => ∃ M9, mN μ ≤ M9 ∧ m = m_grow μ M9) := by
  refine wm_metW (lv := [(0, vR v0), (1, vI v1), (2, vI v2), (3, vI v3), (4, vI v4)]) (by decide +kernel) (Nat.le_of_ble_eq_true rfl) rfl (fun X E hQ0 hTB hXl hXG hR hI => ?_)
  refine wm_aload_n E dL_parent_0 rfl (j := 0) rfl ?_
  refine wm_iload_n E dL_parent_1 rfl (j := 1) rfl ?_
  refine wm_iload_n E dL_parent_2 rfl (j := 2) rfl ?_
  refine wm_iload_n E dL_parent_3 rfl (j := 3) rfl ?_
  refine wm_iload E dL_parent_4 (j := 4) rfl ?_
  refine wm_cVX (ci := 11) (As := [vI v1, vI v2, vI v3, vI v4]) (st := []) E hTB lk_L_29 ml_L_29 rfl im_P_parent sl_P_parent hr (X_P_parent (xl X) (by rw [hXl]; exact hl) X.1 v0 v1 v2 v3 v4 μ μx 1 h) rfl rfl (by rw [hR]; decide) (by rw [hR]; decide) (Nat.le_of_ble_eq_true rfl) dL_parent_6 [(0, 9, 12, 13), (0, 9, 16, 33)] (0, 9, 20, 15) [] rfl (List.forall_mem_cons.mpr ⟨Or.inr ⟨by decide, _, cl_L_13, by decide⟩, List.forall_mem_cons.mpr ⟨Or.inr ⟨by decide, _, cl_L_33, by decide⟩, fun z h => nomatch h⟩⟩) (by decide) (by decide) cl_L_15 ca_ex1 (fun M9 a9 hM9 => ?_)
  refine wm_astore (lv' := [(5, vR ((some a9))), (0, vR v0), (1, vI v1), (2, vI v2), (3, vI v3), (4, vI v4)]) E dL_parent_20 (by decide) rfl ?_
  refine wm_iconst (x := 3) E dL_parent_22 (by decide) ?_
  exact wm_iret (rt := .int) E (rqm hQ0 ⟨M9, hM9, rfl⟩) rfl rfl (by decide) (by decide) dL_parent_23
def S_L_remove (v0 : Option Nat) (v1 : Int32) (v2 : Int32) (μ : Mem) : Option (Int32 × Mem) := b1 (rc μ v0 11) (fun _ => b2 (nrm (S_P_remove v0 v1 v2 μ)) (fun x3 m3 => some (0, m3)))
set_option maxHeartbeats 4000000 in
set_option maxRecDepth 100000 in
theorem C_L_remove (l : Launch) (G : GG) (v0 : Option Nat) (v1 : Int32) (v2 : Int32) (μ μ' : Mem) (r : Int32) (h : S_L_remove v0 v1 v2 μ = some (r, μ')) : CW l G y_L_remove method_8_code 4 (some .int) [(0, 6, 9, 13), (0, 6, 12, 15)] 7 1 6 122 μ [vR v0, vI v1, vI v2] (some (vI r)) (fun m => m = μ') := by
  refine wm_metW (lv := [(0, vR v0), (1, vI v1), (2, vI v2)]) (by decide +kernel) (Nat.le_of_ble_eq_true rfl) rfl (fun X E hQ0 hTB hXl hXG hR hI => ?_)
  have hQ := rqm hQ0 (μ' := μ') rfl
  have h : (b1 (rc μ v0 11) (fun _ => b2 (nrm (S_P_remove v0 v1 v2 μ)) (fun x3 m3 => some (0, m3)))) = some (r, μ') := h
  refine wm_aload_n E dL_remove_0 rfl (j := 0) rfl ?_
  refine wm_iload_n E dL_remove_1 rfl (j := 1) rfl ?_
  refine wm_iload_n E dL_remove_2 rfl (j := 2) rfl ?_
  obtain ⟨u3, hr3, h⟩ := b1S h
  obtain ⟨x3, m3, hc3, h⟩ := b2S h
  refine wm_cV (ci := 11) (As := [vI v1, vI v2]) (st := []) E lk_L_35 rfl im_P_remove sl_P_remove hr3 (C_P_remove (xl X) X.1 v0 v1 v2 μ _ _ (nrmS hc3)) rfl rfl (by rw [hR]; decide) (by rw [hR]; decide) (Nat.le_of_ble_eq_true rfl) dL_remove_3 ?_
  refine wm_goto (tgt := 15) E dL_remove_6 (by decide) ?_
  refine wm_iconst (x := 0) E dL_remove_15 (by decide) ?_
  exact wm_iret (rt := .int) E hQ (rtI h) (rtM h) (by decide) (by decide) dL_remove_16
set_option maxHeartbeats 4000000 in
set_option maxRecDepth 100000 in
theorem X_L_remove_0 (l : Launch) (hl : LF l) (G : GG) (v0 : Option Nat) (v1 : Int32) (v2 : Int32) (μ μx : Mem) {u : Unit} (hr : rc μ v0 11 = some u) (h : S_P_remove v0 v1 v2 (m_up μ) = some (.inl 0, μx)) : CW l G y_L_remove method_8_code 4 (some .int) [(0, 6, 9, 13), (0, 6, 12, 15)] 7 1 6 122 μ [vR v0, vI v1, vI v2] (some (vI 1)) (fun m => ∃ M9, mN μ ≤ M9 ∧ m = m_grow μ M9) := by
  refine wm_metW (lv := [(0, vR v0), (1, vI v1), (2, vI v2)]) (by decide +kernel) (Nat.le_of_ble_eq_true rfl) rfl (fun X E hQ0 hTB hXl hXG hR hI => ?_)
  refine wm_aload_n E dL_remove_0 rfl (j := 0) rfl ?_
  refine wm_iload_n E dL_remove_1 rfl (j := 1) rfl ?_
  refine wm_iload_n E dL_remove_2 rfl (j := 2) rfl ?_
  refine wm_cVX (ci := 11) (As := [vI v1, vI v2]) (st := []) E hTB lk_L_35 ml_L_35 rfl im_P_remove sl_P_remove hr (X_P_remove (xl X) (by rw [hXl]; exact hl) X.1 v0 v1 v2 μ μx 0 h) rfl rfl (by rw [hR]; decide) (by rw [hR]; decide) (Nat.le_of_ble_eq_true rfl) dL_remove_3 [] (0, 6, 9, 13) [(0, 6, 12, 15)] rfl (fun z h => nomatch h) (by decide) (by decide) cl_L_13 ca_ex0 (fun M9 a9 hM9 => ?_)
  refine wm_astore_n (lv' := [(3, vR ((some a9))), (0, vR v0), (1, vI v1), (2, vI v2)]) E dL_remove_9 rfl (by decide) rfl ?_
  refine wm_iconst (x := 1) E dL_remove_10 (by decide) ?_
  exact wm_iret (rt := .int) E (rqm hQ0 ⟨M9, hM9, rfl⟩) rfl rfl (by decide) (by decide) dL_remove_11
set_option maxHeartbeats 4000000 in
set_option maxRecDepth 100000 in
theorem X_L_remove_1 (l : Launch) (hl : LF l) (G : GG) (v0 : Option Nat) (v1 : Int32) (v2 : Int32) (μ μx : Mem) {u : Unit} (hr : rc μ v0 11 = some u) (h : S_P_remove v0 v1 v2 (m_up μ) = some (.inl 1, μx)) : CW l G y_L_remove method_8_code 4 (some .int) [(0, 6, 9, 13), (0, 6, 12, 15)] 7 1 6 122 μ [vR v0, vI v1, vI v2] (some (vI 2)) (fun m => ∃ M9, mN μ ≤ M9 ∧ m = m_grow μ M9) := by
  refine wm_metW (lv := [(0, vR v0), (1, vI v1), (2, vI v2)]) (by decide +kernel) (Nat.le_of_ble_eq_true rfl) rfl (fun X E hQ0 hTB hXl hXG hR hI => ?_)
  refine wm_aload_n E dL_remove_0 rfl (j := 0) rfl ?_
  refine wm_iload_n E dL_remove_1 rfl (j := 1) rfl ?_
  refine wm_iload_n E dL_remove_2 rfl (j := 2) rfl ?_
  refine wm_cVX (ci := 11) (As := [vI v1, vI v2]) (st := []) E hTB lk_L_35 ml_L_35 rfl im_P_remove sl_P_remove hr (X_P_remove (xl X) (by rw [hXl]; exact hl) X.1 v0 v1 v2 μ μx 1 h) rfl rfl (by rw [hR]; decide) (by rw [hR]; decide) (Nat.le_of_ble_eq_true rfl) dL_remove_3 [(0, 6, 9, 13)] (0, 6, 12, 15) [] rfl (List.forall_mem_cons.mpr ⟨Or.inr ⟨by decide, _, cl_L_13, by decide⟩, fun z h => nomatch h⟩) (by decide) (by decide) cl_L_15 ca_ex1 (fun M9 a9 hM9 => ?_)
  refine wm_astore_n (lv' := [(3, vR ((some a9))), (0, vR v0), (1, vI v1), (2, vI v2)]) E dL_remove_12 rfl (by decide) rfl ?_
  refine wm_iconst (x := 2) E dL_remove_13 (by decide) ?_
  exact wm_iret (rt := .int) E (rqm hQ0 ⟨M9, hM9, rfl⟩) rfl rfl (by decide) (by decide) dL_remove_14
def S_L_condition (v0 : Option Nat) (v1 : Int32) (v2 : Int32) (v3 : Int32) (v4 : Int32) (v5 : Option Nat) (μ : Mem) : Option (Int32 × Mem) := b1 (rc μ v0 11) (fun _ => b2 (nrm (S_P_condition v0 v1 v2 v3 v4 μ)) (fun x9 m9 => b1 (sL m9 v5 1 0 ((x9 : Int32).toInt64)) (fun m13 => some (0, m13))))
set_option maxHeartbeats 4000000 in
set_option maxRecDepth 100000 in
theorem C_L_condition (l : Launch) (G : GG) (v0 : Option Nat) (v1 : Int32) (v2 : Int32) (v3 : Int32) (v4 : Int32) (v5 : Option Nat) (μ μ' : Mem) (r : Int32) (h : S_L_condition v0 v1 v2 v3 v4 v5 μ = some (r, μ')) : CW l G y_L_condition method_9_code 7 (some .int) [(0, 14, 17, 13), (0, 14, 21, 15)] 8 4 50 216 μ [vR v0, vI v1, vI v2, vI v3, vI v4, vR v5] (some (vI r)) (fun m => m = μ') := by
  refine wm_metW (lv := [(0, vR v0), (1, vI v1), (2, vI v2), (3, vI v3), (4, vI v4), (5, vR v5)]) (by decide +kernel) (Nat.le_of_ble_eq_true rfl) rfl (fun X E hQ0 hTB hXl hXG hR hI => ?_)
  have hQ := rqm hQ0 (μ' := μ') rfl
  have h : (b1 (rc μ v0 11) (fun _ => b2 (nrm (S_P_condition v0 v1 v2 v3 v4 μ)) (fun x9 m9 => b1 (sL m9 v5 1 0 ((x9 : Int32).toInt64)) (fun m13 => some (0, m13))))) = some (r, μ') := h
  refine wm_aload E dL_condition_0 (j := 5) rfl ?_
  refine wm_iconst (x := 0) E dL_condition_2 (by decide) ?_
  refine wm_aload_n E dL_condition_3 rfl (j := 0) rfl ?_
  refine wm_iload_n E dL_condition_4 rfl (j := 1) rfl ?_
  refine wm_iload_n E dL_condition_5 rfl (j := 2) rfl ?_
  refine wm_iload_n E dL_condition_6 rfl (j := 3) rfl ?_
  refine wm_iload E dL_condition_7 (j := 4) rfl ?_
  obtain ⟨u9, hr9, h⟩ := b1S h
  obtain ⟨x9, m9, hc9, h⟩ := b2S h
  refine wm_cV (ci := 11) (As := [vI v1, vI v2, vI v3, vI v4]) (st := [vI 0, vR v5]) E lk_L_38 rfl im_P_condition sl_P_condition hr9 (C_P_condition (xl X) X.1 v0 v1 v2 v3 v4 μ _ _ (nrmS hc9)) rfl rfl (by rw [hR]; decide) (by rw [hR]; decide) (Nat.le_of_ble_eq_true rfl) dL_condition_9 ?_
  refine wm_i2l E dL_condition_12 ?_
  refine wm_last (t := 1) E rfl h dL_condition_13 (fun m13 h => ?_)
  refine wm_goto (tgt := 25) E dL_condition_14 (by decide) ?_
  refine wm_iconst (x := 0) E dL_condition_25 (by decide) ?_
  exact wm_iret (rt := .int) E hQ (rtI h) (rtM h) (by decide) (by decide) dL_condition_26
set_option maxHeartbeats 4000000 in
set_option maxRecDepth 100000 in
theorem X_L_condition_0 (l : Launch) (hl : LF l) (G : GG) (v0 : Option Nat) (v1 : Int32) (v2 : Int32) (v3 : Int32) (v4 : Int32) (v5 : Option Nat) (μ μx : Mem) {u : Unit} (hr : rc μ v0 11 = some u) (h : S_P_condition v0 v1 v2 v3 v4 (m_up μ) = some (.inl 0, μx)) : CW l G y_L_condition method_9_code 7 (some .int) [(0, 14, 17, 13), (0, 14, 21, 15)] 8 4 50 216 μ [vR v0, vI v1, vI v2, vI v3, vI v4, vR v5] (some (vI 1)) (fun m => ∃ M9, mN μ ≤ M9 ∧ m = m_grow μ M9) := by
  refine wm_metW (lv := [(0, vR v0), (1, vI v1), (2, vI v2), (3, vI v3), (4, vI v4), (5, vR v5)]) (by decide +kernel) (Nat.le_of_ble_eq_true rfl) rfl (fun X E hQ0 hTB hXl hXG hR hI => ?_)
  refine wm_aload E dL_condition_0 (j := 5) rfl ?_
  refine wm_iconst (x := 0) E dL_condition_2 (by decide) ?_
  refine wm_aload_n E dL_condition_3 rfl (j := 0) rfl ?_
  refine wm_iload_n E dL_condition_4 rfl (j := 1) rfl ?_
  refine wm_iload_n E dL_condition_5 rfl (j := 2) rfl ?_
  refine wm_iload_n E dL_condition_6 rfl (j := 3) rfl ?_
  refine wm_iload E dL_condition_7 (j := 4) rfl ?_
  refine wm_cVX (ci := 11) (As := [vI v1, vI v2, vI v3, vI v4]) (st := [vI 0, vR v5]) E hTB lk_L_38 ml_L_38 rfl im_P_condition sl_P_condition hr (X_P_condition (xl X) (by rw [hXl]; exact hl) X.1 v0 v1 v2 v3 v4 μ μx 0 h) rfl rfl (by rw [hR]; decide) (by rw [hR]; decide) (Nat.le_of_ble_eq_true rfl) dL_condition_9 [] (0, 14, 17, 13) [(0, 14, 21, 15)] rfl (fun z h => nomatch h) (by decide) (by decide) cl_L_13 ca_ex0 (fun M9 a9 hM9 => ?_)
  refine wm_astore (lv' := [(6, vR ((some a9))), (0, vR v0), (1, vI v1), (2, vI v2), (3, vI v3), (4, vI v4), (5, vR v5)]) E dL_condition_17 (by decide) rfl ?_
  refine wm_iconst (x := 1) E dL_condition_19 (by decide) ?_
  exact wm_iret (rt := .int) E (rqm hQ0 ⟨M9, hM9, rfl⟩) rfl rfl (by decide) (by decide) dL_condition_20
set_option maxHeartbeats 4000000 in
set_option maxRecDepth 100000 in
theorem X_L_condition_1 (l : Launch) (hl : LF l) (G : GG) (v0 : Option Nat) (v1 : Int32) (v2 : Int32) (v3 : Int32) (v4 : Int32) (v5 : Option Nat) (μ μx : Mem) {u : Unit} (hr : rc μ v0 11 = some u) (h : S_P_condition v0 v1 v2 v3 v4 (m_up μ) = some (.inl 1, μx)) : CW l G y_L_condition method_9_code 7 (some .int) [(0, 14, 17, 13), (0, 14, 21, 15)] 8 4 50 216 μ [vR v0, vI v1, vI v2, vI v3, vI v4, vR v5] (some (vI 2)) (fun m => ∃ M9, mN μ ≤ M9 ∧ m = m_grow μ M9) := by
  refine wm_metW (lv := [(0, vR v0), (1, vI v1), (2, vI v2), (3, vI v3), (4, vI v4), (5, vR v5)]) (by decide +kernel) (Nat.le_of_ble_eq_true rfl) rfl (fun X E hQ0 hTB hXl hXG hR hI => ?_)
  refine wm_aload E dL_condition_0 (j := 5) rfl ?_
  refine wm_iconst (x := 0) E dL_condition_2 (by decide) ?_
  refine wm_aload_n E dL_condition_3 rfl (j := 0) rfl ?_
  refine wm_iload_n E dL_condition_4 rfl (j := 1) rfl ?_
  refine wm_iload_n E dL_condition_5 rfl (j := 2) rfl ?_
  refine wm_iload_n E dL_condition_6 rfl (j := 3) rfl ?_
  refine wm_iload E dL_condition_7 (j := 4) rfl ?_
  refine wm_cVX (ci := 11) (As := [vI v1, vI v2, vI v3, vI v4]) (st := [vI 0, vR v5]) E hTB lk_L_38 ml_L_38 rfl im_P_condition sl_P_condition hr (X_P_condition (xl X) (by rw [hXl]; exact hl) X.1 v0 v1 v2 v3 v4 μ μx 1 h) rfl rfl (by rw [hR]; decide) (by rw [hR]; decide) (Nat.le_of_ble_eq_true rfl) dL_condition_9 [(0, 14, 17, 13)] (0, 14, 21, 15) [] rfl (List.forall_mem_cons.mpr ⟨Or.inr ⟨by decide, _, cl_L_13, by decide⟩, fun z h => nomatch h⟩) (by decide) (by decide) cl_L_15 ca_ex1 (fun M9 a9 hM9 => ?_)
  refine wm_astore (lv' := [(6, vR ((some a9))), (0, vR v0), (1, vI v1), (2, vI v2), (3, vI v3), (4, vI v4), (5, vR v5)]) E dL_condition_21 (by decide) rfl ?_
  refine wm_iconst (x := 2) E dL_condition_23 (by decide) ?_
  exact wm_iret (rt := .int) E (rqm hQ0 ⟨M9, hM9, rfl⟩) rfl rfl (by decide) (by decide) dL_condition_24
def S_L_find (v0 : Option Nat) (v1 : Int32) (v2 : Int32) (v3 : Option Nat) (μ : Mem) : Option (Int32 × Mem) := b1 (rc μ v0 11) (fun _ => b2 (nrm (S_P_find v0 v1 v2 μ)) (fun x5 m5 => b1 (sL m5 v3 1 0 ((x5 : Int32).toInt64)) (fun m9 => some (0, m9))))
set_option maxHeartbeats 4000000 in
set_option maxRecDepth 100000 in
theorem C_L_find (l : Launch) (G : GG) (v0 : Option Nat) (v1 : Int32) (v2 : Int32) (v3 : Option Nat) (μ μ' : Mem) (r : Int32) (h : S_L_find v0 v1 v2 v3 μ = some (r, μ')) : CW l G y_L_find method_10_code 5 (some .int) [(0, 10, 13, 13)] 11 1 6 256 μ [vR v0, vI v1, vI v2, vR v3] (some (vI r)) (fun m => m = μ') := by
  refine wm_metW (lv := [(0, vR v0), (1, vI v1), (2, vI v2), (3, vR v3)]) (by decide +kernel) (Nat.le_of_ble_eq_true rfl) rfl (fun X E hQ0 hTB hXl hXG hR hI => ?_)
  have hQ := rqm hQ0 (μ' := μ') rfl
  have h : (b1 (rc μ v0 11) (fun _ => b2 (nrm (S_P_find v0 v1 v2 μ)) (fun x5 m5 => b1 (sL m5 v3 1 0 ((x5 : Int32).toInt64)) (fun m9 => some (0, m9))))) = some (r, μ') := h
  refine wm_aload_n E dL_find_0 rfl (j := 3) rfl ?_
  refine wm_iconst (x := 0) E dL_find_1 (by decide) ?_
  refine wm_aload_n E dL_find_2 rfl (j := 0) rfl ?_
  refine wm_iload_n E dL_find_3 rfl (j := 1) rfl ?_
  refine wm_iload_n E dL_find_4 rfl (j := 2) rfl ?_
  obtain ⟨u5, hr5, h⟩ := b1S h
  obtain ⟨x5, m5, hc5, h⟩ := b2S h
  refine wm_cV (ci := 11) (As := [vI v1, vI v2]) (st := [vI 0, vR v3]) E lk_L_42 rfl im_P_find sl_P_find hr5 (C_P_find (xl X) X.1 v0 v1 v2 μ _ _ (nrmS hc5)) rfl rfl (by rw [hR]; decide) (by rw [hR]; decide) (Nat.le_of_ble_eq_true rfl) dL_find_5 ?_
  refine wm_i2l E dL_find_8 ?_
  refine wm_last (t := 1) E rfl h dL_find_9 (fun m9 h => ?_)
  refine wm_goto (tgt := 17) E dL_find_10 (by decide) ?_
  refine wm_iconst (x := 0) E dL_find_17 (by decide) ?_
  exact wm_iret (rt := .int) E hQ (rtI h) (rtM h) (by decide) (by decide) dL_find_18
set_option maxHeartbeats 4000000 in
set_option maxRecDepth 100000 in
theorem X_L_find_0 (l : Launch) (hl : LF l) (G : GG) (v0 : Option Nat) (v1 : Int32) (v2 : Int32) (v3 : Option Nat) (μ μx : Mem) {u : Unit} (hr : rc μ v0 11 = some u) (h : S_P_find v0 v1 v2 (m_up μ) = some (.inl 0, μx)) : CW l G y_L_find method_10_code 5 (some .int) [(0, 10, 13, 13)] 11 1 6 256 μ [vR v0, vI v1, vI v2, vR v3] (some (vI 1)) (fun m => ∃ M9, mN μ ≤ M9 ∧ m = m_grow μ M9) := by
  refine wm_metW (lv := [(0, vR v0), (1, vI v1), (2, vI v2), (3, vR v3)]) (by decide +kernel) (Nat.le_of_ble_eq_true rfl) rfl (fun X E hQ0 hTB hXl hXG hR hI => ?_)
  refine wm_aload_n E dL_find_0 rfl (j := 3) rfl ?_
  refine wm_iconst (x := 0) E dL_find_1 (by decide) ?_
  refine wm_aload_n E dL_find_2 rfl (j := 0) rfl ?_
  refine wm_iload_n E dL_find_3 rfl (j := 1) rfl ?_
  refine wm_iload_n E dL_find_4 rfl (j := 2) rfl ?_
  refine wm_cVX (ci := 11) (As := [vI v1, vI v2]) (st := [vI 0, vR v3]) E hTB lk_L_42 ml_L_42 rfl im_P_find sl_P_find hr (X_P_find (xl X) (by rw [hXl]; exact hl) X.1 v0 v1 v2 μ μx 0 h) rfl rfl (by rw [hR]; decide) (by rw [hR]; decide) (Nat.le_of_ble_eq_true rfl) dL_find_5 [] (0, 10, 13, 13) [] rfl (fun z h => nomatch h) (by decide) (by decide) cl_L_13 ca_ex0 (fun M9 a9 hM9 => ?_)
  refine wm_astore (lv' := [(4, vR ((some a9))), (0, vR v0), (1, vI v1), (2, vI v2), (3, vR v3)]) E dL_find_13 (by decide) rfl ?_
  refine wm_iconst (x := 1) E dL_find_15 (by decide) ?_
  exact wm_iret (rt := .int) E (rqm hQ0 ⟨M9, hM9, rfl⟩) rfl rfl (by decide) (by decide) dL_find_16
def S_L_near (v0 : Option Nat) (v1 : Int32) (v2 : Int32) (v3 : Int32) (v4 : Int32) (v5 : Int32) (v6 : Option Nat) (μ : Mem) : Option (Int32 × Mem) := b1 (rc μ v0 11) (fun _ => b2 (nrm (S_P_near v0 v1 v2 v3 v4 v5 μ)) (fun x11 m11 => b1 (sL m11 v6 1 0 ((x11 : Int32).toInt64)) (fun m15 => some (0, m15))))
set_option maxHeartbeats 4000000 in
set_option maxRecDepth 100000 in
theorem C_L_near (l : Launch) (G : GG) (v0 : Option Nat) (v1 : Int32) (v2 : Int32) (v3 : Int32) (v4 : Int32) (v5 : Int32) (v6 : Option Nat) (μ μ' : Mem) (r : Int32) (h : S_L_near v0 v1 v2 v3 v4 v5 v6 μ = some (r, μ')) : CW l G y_L_near method_11_code 8 (some .int) [(0, 16, 19, 13)] 7 1 6 139 μ [vR v0, vI v1, vI v2, vI v3, vI v4, vI v5, vR v6] (some (vI r)) (fun m => m = μ') := by
  refine wm_metW (lv := [(0, vR v0), (1, vI v1), (2, vI v2), (3, vI v3), (4, vI v4), (5, vI v5), (6, vR v6)]) (by decide +kernel) (Nat.le_of_ble_eq_true rfl) rfl (fun X E hQ0 hTB hXl hXG hR hI => ?_)
  have hQ := rqm hQ0 (μ' := μ') rfl
  have h : (b1 (rc μ v0 11) (fun _ => b2 (nrm (S_P_near v0 v1 v2 v3 v4 v5 μ)) (fun x11 m11 => b1 (sL m11 v6 1 0 ((x11 : Int32).toInt64)) (fun m15 => some (0, m15))))) = some (r, μ') := h
  refine wm_aload E dL_near_0 (j := 6) rfl ?_
  refine wm_iconst (x := 0) E dL_near_2 (by decide) ?_
  refine wm_aload_n E dL_near_3 rfl (j := 0) rfl ?_
  refine wm_iload_n E dL_near_4 rfl (j := 1) rfl ?_
  refine wm_iload_n E dL_near_5 rfl (j := 2) rfl ?_
  refine wm_iload_n E dL_near_6 rfl (j := 3) rfl ?_
  refine wm_iload E dL_near_7 (j := 4) rfl ?_
  refine wm_iload E dL_near_9 (j := 5) rfl ?_
  obtain ⟨u11, hr11, h⟩ := b1S h
  obtain ⟨x11, m11, hc11, h⟩ := b2S h
  refine wm_cV (ci := 11) (As := [vI v1, vI v2, vI v3, vI v4, vI v5]) (st := [vI 0, vR v6]) E lk_L_45 rfl im_P_near sl_P_near hr11 (C_P_near (xl X) X.1 v0 v1 v2 v3 v4 v5 μ _ _ (nrmS hc11)) rfl rfl (by rw [hR]; decide) (by rw [hR]; decide) (Nat.le_of_ble_eq_true rfl) dL_near_11 ?_
  refine wm_i2l E dL_near_14 ?_
  refine wm_last (t := 1) E rfl h dL_near_15 (fun m15 h => ?_)
  refine wm_goto (tgt := 23) E dL_near_16 (by decide) ?_
  refine wm_iconst (x := 0) E dL_near_23 (by decide) ?_
  exact wm_iret (rt := .int) E hQ (rtI h) (rtM h) (by decide) (by decide) dL_near_24
set_option maxHeartbeats 4000000 in
set_option maxRecDepth 100000 in
theorem X_L_near_0 (l : Launch) (hl : LF l) (G : GG) (v0 : Option Nat) (v1 : Int32) (v2 : Int32) (v3 : Int32) (v4 : Int32) (v5 : Int32) (v6 : Option Nat) (μ μx : Mem) {u : Unit} (hr : rc μ v0 11 = some u) (h : S_P_near v0 v1 v2 v3 v4 v5 (m_up μ) = some (.inl 0, μx)) : CW l G y_L_near method_11_code 8 (some .int) [(0, 16, 19, 13)] 7 1 6 139 μ [vR v0, vI v1, vI v2, vI v3, vI v4, vI v5, vR v6] (some (vI 1)) (fun m => ∃ M9, mN μ ≤ M9 ∧ m = m_grow μ M9) := by
  refine wm_metW (lv := [(0, vR v0), (1, vI v1), (2, vI v2), (3, vI v3), (4, vI v4), (5, vI v5), (6, vR v6)]) (by decide +kernel) (Nat.le_of_ble_eq_true rfl) rfl (fun X E hQ0 hTB hXl hXG hR hI => ?_)
  refine wm_aload E dL_near_0 (j := 6) rfl ?_
  refine wm_iconst (x := 0) E dL_near_2 (by decide) ?_
  refine wm_aload_n E dL_near_3 rfl (j := 0) rfl ?_
  refine wm_iload_n E dL_near_4 rfl (j := 1) rfl ?_
  refine wm_iload_n E dL_near_5 rfl (j := 2) rfl ?_
  refine wm_iload_n E dL_near_6 rfl (j := 3) rfl ?_
  refine wm_iload E dL_near_7 (j := 4) rfl ?_
  refine wm_iload E dL_near_9 (j := 5) rfl ?_
  refine wm_cVX (ci := 11) (As := [vI v1, vI v2, vI v3, vI v4, vI v5]) (st := [vI 0, vR v6]) E hTB lk_L_45 ml_L_45 rfl im_P_near sl_P_near hr (X_P_near (xl X) (by rw [hXl]; exact hl) X.1 v0 v1 v2 v3 v4 v5 μ μx 0 h) rfl rfl (by rw [hR]; decide) (by rw [hR]; decide) (Nat.le_of_ble_eq_true rfl) dL_near_11 [] (0, 16, 19, 13) [] rfl (fun z h => nomatch h) (by decide) (by decide) cl_L_13 ca_ex0 (fun M9 a9 hM9 => ?_)
  refine wm_astore (lv' := [(7, vR ((some a9))), (0, vR v0), (1, vI v1), (2, vI v2), (3, vI v3), (4, vI v4), (5, vI v5), (6, vR v6)]) E dL_near_19 (by decide) rfl ?_
  refine wm_iconst (x := 1) E dL_near_21 (by decide) ?_
  exact wm_iret (rt := .int) E (rqm hQ0 ⟨M9, hM9, rfl⟩) rfl rfl (by decide) (by decide) dL_near_22
def S_L_hit (v0 : Option Nat) (v1 : Int32) (v2 : Option Nat) (μ : Mem) : Option (Int32 × Mem) := b1 (rc μ v0 11) (fun _ => b2 (nrm (S_P_hit v0 v1 μ)) (fun x4 m4 => b1 (sL m4 v2 1 0 ((x4 : Int32).toInt64)) (fun m8 => some (0, m8))))
set_option maxHeartbeats 4000000 in
set_option maxRecDepth 100000 in
theorem C_L_hit (l : Launch) (G : GG) (v0 : Option Nat) (v1 : Int32) (v2 : Option Nat) (μ μ' : Mem) (r : Int32) (h : S_L_hit v0 v1 v2 μ = some (r, μ')) : CW l G y_L_hit method_12_code 4 (some .int) [(0, 9, 12, 52)] 7 1 6 120 μ [vR v0, vI v1, vR v2] (some (vI r)) (fun m => m = μ') := by
  refine wm_metW (lv := [(0, vR v0), (1, vI v1), (2, vR v2)]) (by decide +kernel) (Nat.le_of_ble_eq_true rfl) rfl (fun X E hQ0 hTB hXl hXG hR hI => ?_)
  have hQ := rqm hQ0 (μ' := μ') rfl
  have h : (b1 (rc μ v0 11) (fun _ => b2 (nrm (S_P_hit v0 v1 μ)) (fun x4 m4 => b1 (sL m4 v2 1 0 ((x4 : Int32).toInt64)) (fun m8 => some (0, m8))))) = some (r, μ') := h
  refine wm_aload_n E dL_hit_0 rfl (j := 2) rfl ?_
  refine wm_iconst (x := 0) E dL_hit_1 (by decide) ?_
  refine wm_aload_n E dL_hit_2 rfl (j := 0) rfl ?_
  refine wm_iload_n E dL_hit_3 rfl (j := 1) rfl ?_
  obtain ⟨u4, hr4, h⟩ := b1S h
  obtain ⟨x4, m4, hc4, h⟩ := b2S h
  refine wm_cV (ci := 11) (As := [vI v1]) (st := [vI 0, vR v2]) E lk_L_49 rfl im_P_hit sl_P_hit hr4 (C_P_hit (xl X) X.1 v0 v1 μ _ _ (nrmS hc4)) rfl rfl (by rw [hR]; decide) (by rw [hR]; decide) (Nat.le_of_ble_eq_true rfl) dL_hit_4 ?_
  refine wm_i2l E dL_hit_7 ?_
  refine wm_last (t := 1) E rfl h dL_hit_8 (fun m8 h => ?_)
  refine wm_goto (tgt := 15) E dL_hit_9 (by decide) ?_
  refine wm_iconst (x := 0) E dL_hit_15 (by decide) ?_
  exact wm_iret (rt := .int) E hQ (rtI h) (rtM h) (by decide) (by decide) dL_hit_16
set_option maxHeartbeats 4000000 in
set_option maxRecDepth 100000 in
theorem X_L_hit_3 (l : Launch) (hl : LF l) (G : GG) (v0 : Option Nat) (v1 : Int32) (v2 : Option Nat) (μ μx : Mem) {u : Unit} (hr : rc μ v0 11 = some u) (h : S_P_hit v0 v1 (m_up μ) = some (.inl 3, μx)) : CW l G y_L_hit method_12_code 4 (some .int) [(0, 9, 12, 52)] 7 1 6 120 μ [vR v0, vI v1, vR v2] (some (vI 1)) (fun m => ∃ M9, mN μ ≤ M9 ∧ m = m_grow μ M9) := by
  refine wm_metW (lv := [(0, vR v0), (1, vI v1), (2, vR v2)]) (by decide +kernel) (Nat.le_of_ble_eq_true rfl) rfl (fun X E hQ0 hTB hXl hXG hR hI => ?_)
  refine wm_aload_n E dL_hit_0 rfl (j := 2) rfl ?_
  refine wm_iconst (x := 0) E dL_hit_1 (by decide) ?_
  refine wm_aload_n E dL_hit_2 rfl (j := 0) rfl ?_
  refine wm_iload_n E dL_hit_3 rfl (j := 1) rfl ?_
  refine wm_cVX (ci := 11) (As := [vI v1]) (st := [vI 0, vR v2]) E hTB lk_L_49 ml_L_49 rfl im_P_hit sl_P_hit hr (X_P_hit (xl X) (by rw [hXl]; exact hl) X.1 v0 v1 μ μx 3 h) rfl rfl (by rw [hR]; decide) (by rw [hR]; decide) (Nat.le_of_ble_eq_true rfl) dL_hit_4 [] (0, 9, 12, 52) [] rfl (fun z h => nomatch h) (by decide) (by decide) cl_L_52 ca_ex3 (fun M9 a9 hM9 => ?_)
  refine wm_astore_n (lv' := [(3, vR ((some a9))), (0, vR v0), (1, vI v1), (2, vR v2)]) E dL_hit_12 rfl (by decide) rfl ?_
  refine wm_iconst (x := 1) E dL_hit_13 (by decide) ?_
  exact wm_iret (rt := .int) E (rqm hQ0 ⟨M9, hM9, rfl⟩) rfl rfl (by decide) (by decide) dL_hit_14
def S_L_chain (v0 : Option Nat) (v1 : Int32) (v2 : Int32) (v3 : Int32) (v4 : Option Nat) (μ : Mem) : Option (Int32 × Mem) := b1 (rc μ v0 11) (fun _ => b2 (nrm (S_P_chain v0 v1 v2 v3 μ)) (fun x7 m7 => b1 (sL m7 v4 1 0 ((x7 : Int32).toInt64)) (fun m11 => some (0, m11))))
set_option maxHeartbeats 4000000 in
set_option maxRecDepth 100000 in
theorem C_L_chain (l : Launch) (G : GG) (v0 : Option Nat) (v1 : Int32) (v2 : Int32) (v3 : Int32) (v4 : Option Nat) (μ μ' : Mem) (r : Int32) (h : S_L_chain v0 v1 v2 v3 v4 μ = some (r, μ')) : CW l G y_L_chain method_13_code 6 (some .int) [(0, 12, 15, 13)] 7 1 6 124 μ [vR v0, vI v1, vI v2, vI v3, vR v4] (some (vI r)) (fun m => m = μ') := by
  refine wm_metW (lv := [(0, vR v0), (1, vI v1), (2, vI v2), (3, vI v3), (4, vR v4)]) (by decide +kernel) (Nat.le_of_ble_eq_true rfl) rfl (fun X E hQ0 hTB hXl hXG hR hI => ?_)
  have hQ := rqm hQ0 (μ' := μ') rfl
  have h : (b1 (rc μ v0 11) (fun _ => b2 (nrm (S_P_chain v0 v1 v2 v3 μ)) (fun x7 m7 => b1 (sL m7 v4 1 0 ((x7 : Int32).toInt64)) (fun m11 => some (0, m11))))) = some (r, μ') := h
  refine wm_aload E dL_chain_0 (j := 4) rfl ?_
  refine wm_iconst (x := 0) E dL_chain_2 (by decide) ?_
  refine wm_aload_n E dL_chain_3 rfl (j := 0) rfl ?_
  refine wm_iload_n E dL_chain_4 rfl (j := 1) rfl ?_
  refine wm_iload_n E dL_chain_5 rfl (j := 2) rfl ?_
  refine wm_iload_n E dL_chain_6 rfl (j := 3) rfl ?_
  obtain ⟨u7, hr7, h⟩ := b1S h
  obtain ⟨x7, m7, hc7, h⟩ := b2S h
  refine wm_cV (ci := 11) (As := [vI v1, vI v2, vI v3]) (st := [vI 0, vR v4]) E lk_L_54 rfl im_P_chain sl_P_chain hr7 (C_P_chain (xl X) X.1 v0 v1 v2 v3 μ _ _ (nrmS hc7)) rfl rfl (by rw [hR]; decide) (by rw [hR]; decide) (Nat.le_of_ble_eq_true rfl) dL_chain_7 ?_
  refine wm_i2l E dL_chain_10 ?_
  refine wm_last (t := 1) E rfl h dL_chain_11 (fun m11 h => ?_)
  refine wm_goto (tgt := 19) E dL_chain_12 (by decide) ?_
  refine wm_iconst (x := 0) E dL_chain_19 (by decide) ?_
  exact wm_iret (rt := .int) E hQ (rtI h) (rtM h) (by decide) (by decide) dL_chain_20
set_option maxHeartbeats 4000000 in
set_option maxRecDepth 100000 in
theorem X_L_chain_0 (l : Launch) (hl : LF l) (G : GG) (v0 : Option Nat) (v1 : Int32) (v2 : Int32) (v3 : Int32) (v4 : Option Nat) (μ μx : Mem) {u : Unit} (hr : rc μ v0 11 = some u) (h : S_P_chain v0 v1 v2 v3 (m_up μ) = some (.inl 0, μx)) : CW l G y_L_chain method_13_code 6 (some .int) [(0, 12, 15, 13)] 7 1 6 124 μ [vR v0, vI v1, vI v2, vI v3, vR v4] (some (vI 1)) (fun m => ∃ M9, mN μ ≤ M9 ∧ m = m_grow μ M9) := by
  refine wm_metW (lv := [(0, vR v0), (1, vI v1), (2, vI v2), (3, vI v3), (4, vR v4)]) (by decide +kernel) (Nat.le_of_ble_eq_true rfl) rfl (fun X E hQ0 hTB hXl hXG hR hI => ?_)
  refine wm_aload E dL_chain_0 (j := 4) rfl ?_
  refine wm_iconst (x := 0) E dL_chain_2 (by decide) ?_
  refine wm_aload_n E dL_chain_3 rfl (j := 0) rfl ?_
  refine wm_iload_n E dL_chain_4 rfl (j := 1) rfl ?_
  refine wm_iload_n E dL_chain_5 rfl (j := 2) rfl ?_
  refine wm_iload_n E dL_chain_6 rfl (j := 3) rfl ?_
  refine wm_cVX (ci := 11) (As := [vI v1, vI v2, vI v3]) (st := [vI 0, vR v4]) E hTB lk_L_54 ml_L_54 rfl im_P_chain sl_P_chain hr (X_P_chain (xl X) (by rw [hXl]; exact hl) X.1 v0 v1 v2 v3 μ μx 0 h) rfl rfl (by rw [hR]; decide) (by rw [hR]; decide) (Nat.le_of_ble_eq_true rfl) dL_chain_7 [] (0, 12, 15, 13) [] rfl (fun z h => nomatch h) (by decide) (by decide) cl_L_13 ca_ex0 (fun M9 a9 hM9 => ?_)
  refine wm_astore (lv' := [(5, vR ((some a9))), (0, vR v0), (1, vI v1), (2, vI v2), (3, vI v3), (4, vR v4)]) E dL_chain_15 (by decide) rfl ?_
  refine wm_iconst (x := 1) E dL_chain_17 (by decide) ?_
  exact wm_iret (rt := .int) E (rqm hQ0 ⟨M9, hM9, rfl⟩) rfl rfl (by decide) (by decide) dL_chain_18
def S_L_holds (v0 : Option Nat) (v1 : Int32) (v2 : Int32) (v3 : Int32) (v4 : Int32) (v5 : Option Nat) (μ : Mem) : Option (Int32 × Mem) := b1 (rc μ v0 11) (fun _ => b2 (nrm (S_P_holds v0 v1 v2 v3 v4 μ)) (fun x9 m9 => b1 (sL m9 v5 1 0 ((x9 : Int32).toInt64)) (fun m13 => some (0, m13))))
set_option maxHeartbeats 4000000 in
set_option maxRecDepth 100000 in
theorem C_L_holds (l : Launch) (G : GG) (v0 : Option Nat) (v1 : Int32) (v2 : Int32) (v3 : Int32) (v4 : Int32) (v5 : Option Nat) (μ μ' : Mem) (r : Int32) (h : S_L_holds v0 v1 v2 v3 v4 v5 μ = some (r, μ')) : CW l G y_L_holds method_14_code 7 (some .int) [(0, 14, 17, 13)] 7 1 6 125 μ [vR v0, vI v1, vI v2, vI v3, vI v4, vR v5] (some (vI r)) (fun m => m = μ') := by
  refine wm_metW (lv := [(0, vR v0), (1, vI v1), (2, vI v2), (3, vI v3), (4, vI v4), (5, vR v5)]) (by decide +kernel) (Nat.le_of_ble_eq_true rfl) rfl (fun X E hQ0 hTB hXl hXG hR hI => ?_)
  have hQ := rqm hQ0 (μ' := μ') rfl
  have h : (b1 (rc μ v0 11) (fun _ => b2 (nrm (S_P_holds v0 v1 v2 v3 v4 μ)) (fun x9 m9 => b1 (sL m9 v5 1 0 ((x9 : Int32).toInt64)) (fun m13 => some (0, m13))))) = some (r, μ') := h
  refine wm_aload E dL_holds_0 (j := 5) rfl ?_
  refine wm_iconst (x := 0) E dL_holds_2 (by decide) ?_
  refine wm_aload_n E dL_holds_3 rfl (j := 0) rfl ?_
  refine wm_iload_n E dL_holds_4 rfl (j := 1) rfl ?_
  refine wm_iload_n E dL_holds_5 rfl (j := 2) rfl ?_
  refine wm_iload_n E dL_holds_6 rfl (j := 3) rfl ?_
  refine wm_iload E dL_holds_7 (j := 4) rfl ?_
  obtain ⟨u9, hr9, h⟩ := b1S h
  obtain ⟨x9, m9, hc9, h⟩ := b2S h
  refine wm_cV (ci := 11) (As := [vI v1, vI v2, vI v3, vI v4]) (st := [vI 0, vR v5]) E lk_L_58 rfl im_P_holds sl_P_holds hr9 (C_P_holds (xl X) X.1 v0 v1 v2 v3 v4 μ _ _ (nrmS hc9)) rfl rfl (by rw [hR]; decide) (by rw [hR]; decide) (Nat.le_of_ble_eq_true rfl) dL_holds_9 ?_
  refine wm_i2l E dL_holds_12 ?_
  refine wm_last (t := 1) E rfl h dL_holds_13 (fun m13 h => ?_)
  refine wm_goto (tgt := 21) E dL_holds_14 (by decide) ?_
  refine wm_iconst (x := 0) E dL_holds_21 (by decide) ?_
  exact wm_iret (rt := .int) E hQ (rtI h) (rtM h) (by decide) (by decide) dL_holds_22
set_option maxHeartbeats 4000000 in
set_option maxRecDepth 100000 in
theorem X_L_holds_0 (l : Launch) (hl : LF l) (G : GG) (v0 : Option Nat) (v1 : Int32) (v2 : Int32) (v3 : Int32) (v4 : Int32) (v5 : Option Nat) (μ μx : Mem) {u : Unit} (hr : rc μ v0 11 = some u) (h : S_P_holds v0 v1 v2 v3 v4 (m_up μ) = some (.inl 0, μx)) : CW l G y_L_holds method_14_code 7 (some .int) [(0, 14, 17, 13)] 7 1 6 125 μ [vR v0, vI v1, vI v2, vI v3, vI v4, vR v5] (some (vI 1)) (fun m => ∃ M9, mN μ ≤ M9 ∧ m = m_grow μ M9) := by
  refine wm_metW (lv := [(0, vR v0), (1, vI v1), (2, vI v2), (3, vI v3), (4, vI v4), (5, vR v5)]) (by decide +kernel) (Nat.le_of_ble_eq_true rfl) rfl (fun X E hQ0 hTB hXl hXG hR hI => ?_)
  refine wm_aload E dL_holds_0 (j := 5) rfl ?_
  refine wm_iconst (x := 0) E dL_holds_2 (by decide) ?_
  refine wm_aload_n E dL_holds_3 rfl (j := 0) rfl ?_
  refine wm_iload_n E dL_holds_4 rfl (j := 1) rfl ?_
  refine wm_iload_n E dL_holds_5 rfl (j := 2) rfl ?_
  refine wm_iload_n E dL_holds_6 rfl (j := 3) rfl ?_
  refine wm_iload E dL_holds_7 (j := 4) rfl ?_
  refine wm_cVX (ci := 11) (As := [vI v1, vI v2, vI v3, vI v4]) (st := [vI 0, vR v5]) E hTB lk_L_58 ml_L_58 rfl im_P_holds sl_P_holds hr (X_P_holds (xl X) (by rw [hXl]; exact hl) X.1 v0 v1 v2 v3 v4 μ μx 0 h) rfl rfl (by rw [hR]; decide) (by rw [hR]; decide) (Nat.le_of_ble_eq_true rfl) dL_holds_9 [] (0, 14, 17, 13) [] rfl (fun z h => nomatch h) (by decide) (by decide) cl_L_13 ca_ex0 (fun M9 a9 hM9 => ?_)
  refine wm_astore (lv' := [(6, vR ((some a9))), (0, vR v0), (1, vI v1), (2, vI v2), (3, vI v3), (4, vI v4), (5, vR v5)]) E dL_holds_17 (by decide) rfl ?_
  refine wm_iconst (x := 1) E dL_holds_19 (by decide) ?_
  exact wm_iret (rt := .int) E (rqm hQ0 ⟨M9, hM9, rfl⟩) rfl rfl (by decide) (by decide) dL_holds_20
def S_L_errors (v0 : Option Nat) (v1 : Int32) (v2 : Int32) (v3 : Option Nat) (μ : Mem) : Option (Int32 × Mem) := b1 (rc μ v0 11) (fun _ => b2 (nrm (S_P_errors v0 v1 v2 μ)) (fun x5 m5 => b1 (sL m5 v3 1 0 ((x5 : Int32).toInt64)) (fun m9 => some (0, m9))))
set_option maxHeartbeats 4000000 in
set_option maxRecDepth 100000 in
theorem C_L_errors (l : Launch) (G : GG) (v0 : Option Nat) (v1 : Int32) (v2 : Int32) (v3 : Option Nat) (μ μ' : Mem) (r : Int32) (h : S_L_errors v0 v1 v2 v3 μ = some (r, μ')) : CW l G y_L_errors method_15_code 5 (some .int) [(0, 10, 13, 64)] 7 2 12 122 μ [vR v0, vI v1, vI v2, vR v3] (some (vI r)) (fun m => m = μ') := by
  refine wm_metW (lv := [(0, vR v0), (1, vI v1), (2, vI v2), (3, vR v3)]) (by decide +kernel) (Nat.le_of_ble_eq_true rfl) rfl (fun X E hQ0 hTB hXl hXG hR hI => ?_)
  have hQ := rqm hQ0 (μ' := μ') rfl
  have h : (b1 (rc μ v0 11) (fun _ => b2 (nrm (S_P_errors v0 v1 v2 μ)) (fun x5 m5 => b1 (sL m5 v3 1 0 ((x5 : Int32).toInt64)) (fun m9 => some (0, m9))))) = some (r, μ') := h
  refine wm_aload_n E dL_errors_0 rfl (j := 3) rfl ?_
  refine wm_iconst (x := 0) E dL_errors_1 (by decide) ?_
  refine wm_aload_n E dL_errors_2 rfl (j := 0) rfl ?_
  refine wm_iload_n E dL_errors_3 rfl (j := 1) rfl ?_
  refine wm_iload_n E dL_errors_4 rfl (j := 2) rfl ?_
  obtain ⟨u5, hr5, h⟩ := b1S h
  obtain ⟨x5, m5, hc5, h⟩ := b2S h
  refine wm_cV (ci := 11) (As := [vI v1, vI v2]) (st := [vI 0, vR v3]) E lk_L_61 rfl im_P_errors sl_P_errors hr5 (C_P_errors (xl X) X.1 v0 v1 v2 μ _ _ (nrmS hc5)) rfl rfl (by rw [hR]; decide) (by rw [hR]; decide) (Nat.le_of_ble_eq_true rfl) dL_errors_5 ?_
  refine wm_i2l E dL_errors_8 ?_
  refine wm_last (t := 1) E rfl h dL_errors_9 (fun m9 h => ?_)
  refine wm_goto (tgt := 17) E dL_errors_10 (by decide) ?_
  refine wm_iconst (x := 0) E dL_errors_17 (by decide) ?_
  exact wm_iret (rt := .int) E hQ (rtI h) (rtM h) (by decide) (by decide) dL_errors_18
set_option maxHeartbeats 4000000 in
set_option maxRecDepth 100000 in
theorem X_L_errors_4 (l : Launch) (hl : LF l) (G : GG) (v0 : Option Nat) (v1 : Int32) (v2 : Int32) (v3 : Option Nat) (μ μx : Mem) {u : Unit} (hr : rc μ v0 11 = some u) (h : S_P_errors v0 v1 v2 (m_up μ) = some (.inl 4, μx)) : CW l G y_L_errors method_15_code 5 (some .int) [(0, 10, 13, 64)] 7 2 12 122 μ [vR v0, vI v1, vI v2, vR v3] (some (vI 1)) (fun m => ∃ M9, mN μ ≤ M9 ∧ m = m_grow μ M9) := by
  refine wm_metW (lv := [(0, vR v0), (1, vI v1), (2, vI v2), (3, vR v3)]) (by decide +kernel) (Nat.le_of_ble_eq_true rfl) rfl (fun X E hQ0 hTB hXl hXG hR hI => ?_)
  refine wm_aload_n E dL_errors_0 rfl (j := 3) rfl ?_
  refine wm_iconst (x := 0) E dL_errors_1 (by decide) ?_
  refine wm_aload_n E dL_errors_2 rfl (j := 0) rfl ?_
  refine wm_iload_n E dL_errors_3 rfl (j := 1) rfl ?_
  refine wm_iload_n E dL_errors_4 rfl (j := 2) rfl ?_
  refine wm_cVX (ci := 11) (As := [vI v1, vI v2]) (st := [vI 0, vR v3]) E hTB lk_L_61 ml_L_61 rfl im_P_errors sl_P_errors hr (X_P_errors (xl X) (by rw [hXl]; exact hl) X.1 v0 v1 v2 μ μx 4 h) rfl rfl (by rw [hR]; decide) (by rw [hR]; decide) (Nat.le_of_ble_eq_true rfl) dL_errors_5 [] (0, 10, 13, 64) [] rfl (fun z h => nomatch h) (by decide) (by decide) cl_L_64 ca_ex4 (fun M9 a9 hM9 => ?_)
  refine wm_astore (lv' := [(4, vR ((some a9))), (0, vR v0), (1, vI v1), (2, vI v2), (3, vR v3)]) E dL_errors_13 (by decide) rfl ?_
  refine wm_iconst (x := 1) E dL_errors_15 (by decide) ?_
  exact wm_iret (rt := .int) E (rqm hQ0 ⟨M9, hM9, rfl⟩) rfl rfl (by decide) (by decide) dL_errors_16
