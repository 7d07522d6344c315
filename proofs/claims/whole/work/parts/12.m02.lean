def B_M_classOf_24   (μ : Mem) : Option (Int32 × Mem) := some (1, μ)
set_option maxHeartbeats 4000000 in
set_option maxRecDepth 100000 in
theorem w_M_classOf_24 {X : CX} (E : EV X prog_13_method_23_code 1 "PlaceFinderModel" (some .int)) {μ0 μ' : Mem} {r : Int32} (hQ : RQ X 0 0 μ0 (some (vI r)) μ') (hR : xR X = { frames := 0, cells := 0, slots := 0, locals := 0 }) (hI : X.2.2.2.2.2.2.2.2.2.2.2.1.name = "classOf")   (μ : Mem) (h : B_M_classOf_24   μ = some (r, μ')) : WM X 1 24 [] [] 0 0 μ := by
  have h : (some (1, μ)) = some (r, μ') := h
  refine wm_iconst (x := 1) E dM_classOf_24 (by decide) ?_
  exact wm_iret (rt := .int) E hQ (rtI h) (rtM h) (by decide) (by decide) dM_classOf_25
def B_M_classOf_74   (μ : Mem) : Option (Int32 × Mem) := some (2, μ)
set_option maxHeartbeats 4000000 in
set_option maxRecDepth 100000 in
theorem w_M_classOf_74 {X : CX} (E : EV X prog_13_method_23_code 1 "PlaceFinderModel" (some .int)) {μ0 μ' : Mem} {r : Int32} (hQ : RQ X 0 0 μ0 (some (vI r)) μ') (hR : xR X = { frames := 0, cells := 0, slots := 0, locals := 0 }) (hI : X.2.2.2.2.2.2.2.2.2.2.2.1.name = "classOf")   (μ : Mem) (h : B_M_classOf_74   μ = some (r, μ')) : WM X 1 74 [] [] 0 0 μ := by
  have h : (some (2, μ)) = some (r, μ') := h
  refine wm_iconst (x := 2) E dM_classOf_74 (by decide) ?_
  exact wm_iret (rt := .int) E hQ (rtI h) (rtM h) (by decide) (by decide) dM_classOf_75
def B_M_classOf_88   (μ : Mem) : Option (Int32 × Mem) := some (3, μ)
set_option maxHeartbeats 4000000 in
set_option maxRecDepth 100000 in
theorem w_M_classOf_88 {X : CX} (E : EV X prog_13_method_23_code 1 "PlaceFinderModel" (some .int)) {μ0 μ' : Mem} {r : Int32} (hQ : RQ X 0 0 μ0 (some (vI r)) μ') (hR : xR X = { frames := 0, cells := 0, slots := 0, locals := 0 }) (hI : X.2.2.2.2.2.2.2.2.2.2.2.1.name = "classOf")   (μ : Mem) (h : B_M_classOf_88   μ = some (r, μ')) : WM X 1 88 [] [] 0 0 μ := by
  have h : (some (3, μ)) = some (r, μ') := h
  refine wm_iconst (x := 3) E dM_classOf_88 (by decide) ?_
  exact wm_iret (rt := .int) E hQ (rtI h) (rtM h) (by decide) (by decide) dM_classOf_89
def B_M_classOf_110   (μ : Mem) : Option (Int32 × Mem) := some (5, μ)
set_option maxHeartbeats 4000000 in
set_option maxRecDepth 100000 in
theorem w_M_classOf_110 {X : CX} (E : EV X prog_13_method_23_code 1 "PlaceFinderModel" (some .int)) {μ0 μ' : Mem} {r : Int32} (hQ : RQ X 0 0 μ0 (some (vI r)) μ') (hR : xR X = { frames := 0, cells := 0, slots := 0, locals := 0 }) (hI : X.2.2.2.2.2.2.2.2.2.2.2.1.name = "classOf")   (μ : Mem) (h : B_M_classOf_110   μ = some (r, μ')) : WM X 1 110 [] [] 0 0 μ := by
  have h : (some (5, μ)) = some (r, μ') := h
  refine wm_iconst (x := 5) E dM_classOf_110 (by decide) ?_
  exact wm_iret (rt := .int) E hQ (rtI h) (rtM h) (by decide) (by decide) dM_classOf_111
def B_M_classOf_124  (s0 : Int32) (μ : Mem) : Option (Int32 × Mem) := some (s0, μ)
set_option maxHeartbeats 4000000 in
set_option maxRecDepth 100000 in
theorem w_M_classOf_124 {X : CX} (E : EV X prog_13_method_23_code 1 "PlaceFinderModel" (some .int)) {μ0 μ' : Mem} {r : Int32} (hQ : RQ X 0 0 μ0 (some (vI r)) μ') (hR : xR X = { frames := 0, cells := 0, slots := 0, locals := 0 }) (hI : X.2.2.2.2.2.2.2.2.2.2.2.1.name = "classOf")  (s0 : Int32) (μ : Mem) (h : B_M_classOf_124  s0 μ = some (r, μ')) : WM X 1 124 [] [vI s0] 0 0 μ := by
  have h : (some (s0, μ)) = some (r, μ') := h
  exact wm_iret (rt := .int) E hQ (rtI h) (rtM h) (by decide) (by decide) dM_classOf_124
def S_M_classOf (v0 : Int32) (μ : Mem) : Option (Int32 × Mem) := if v0 = 98 then B_M_classOf_24 μ else if v0 = 102 then B_M_classOf_24 μ else if v0 = 112 then B_M_classOf_24 μ else if v0 = 118 then B_M_classOf_24 μ else if v0 = 99 then B_M_classOf_74 μ else if v0 = 103 then B_M_classOf_74 μ else if v0 = 106 then B_M_classOf_74 μ else if v0 = 107 then B_M_classOf_74 μ else if v0 = 113 then B_M_classOf_74 μ else if v0 = 115 then B_M_classOf_74 μ else if v0 = 120 then B_M_classOf_74 μ else if v0 = 122 then B_M_classOf_74 μ else if v0 = 100 then B_M_classOf_88 μ else if v0 = 116 then B_M_classOf_88 μ else if v0 = 108 then some (4, μ) else if v0 = 109 then B_M_classOf_110 μ else if v0 = 110 then B_M_classOf_110 μ else if v0 = 114 then B_M_classOf_124 6 μ else B_M_classOf_124 0 μ
set_option maxHeartbeats 4000000 in
set_option maxRecDepth 100000 in
theorem C_M_classOf (l : Launch) (G : GG) (v0 : Int32) (μ μ' : Mem) (r : Int32) (h : S_M_classOf v0 μ = some (r, μ')) : CT l G y_M_classOf prog_13_method_23_code 1 (some .int) 0 0 0 0 μ [vI v0] (some (vI r)) μ' := by
  refine wm_met (lv := [(0, vI v0)]) (by decide +kernel) (Nat.le_of_ble_eq_true rfl) rfl (fun X E hQ hR hI => ?_)
  have h : (if v0 = 98 then B_M_classOf_24 μ else if v0 = 102 then B_M_classOf_24 μ else if v0 = 112 then B_M_classOf_24 μ else if v0 = 118 then B_M_classOf_24 μ else if v0 = 99 then B_M_classOf_74 μ else if v0 = 103 then B_M_classOf_74 μ else if v0 = 106 then B_M_classOf_74 μ else if v0 = 107 then B_M_classOf_74 μ else if v0 = 113 then B_M_classOf_74 μ else if v0 = 115 then B_M_classOf_74 μ else if v0 = 120 then B_M_classOf_74 μ else if v0 = 122 then B_M_classOf_74 μ else if v0 = 100 then B_M_classOf_88 μ else if v0 = 116 then B_M_classOf_88 μ else if v0 = 108 then some (4, μ) else if v0 = 109 then B_M_classOf_110 μ else if v0 = 110 then B_M_classOf_110 μ else if v0 = 114 then B_M_classOf_124 6 μ else B_M_classOf_124 0 μ) = some (r, μ') := h
  refine wm_iload_n E dM_classOf_0 rfl (j := 0) rfl ?_
  refine wm_bipush (x := 98) E dM_classOf_1 (by decide) ?_
  refine wm_icmp_eq (tgt := 24) E dM_classOf_3 (by decide) (fun c3 => ?_) (fun c3 => ?_)
  · have h := (if_pos c3).symm.trans h
    refine wm_pick (lv' := []) [] rfl ?_
    exact w_M_classOf_24 E hQ hR hI μ h
  · have h := (if_neg c3).symm.trans h
    refine wm_iload_n E dM_classOf_6 rfl (j := 0) rfl ?_
    refine wm_bipush (x := 102) E dM_classOf_7 (by decide) ?_
    refine wm_icmp_eq (tgt := 24) E dM_classOf_9 (by decide) (fun c9 => ?_) (fun c9 => ?_)
    · have h := (if_pos c9).symm.trans h
      refine wm_pick (lv' := []) [] rfl ?_
      exact w_M_classOf_24 E hQ hR hI μ h
    · have h := (if_neg c9).symm.trans h
      refine wm_iload_n E dM_classOf_12 rfl (j := 0) rfl ?_
      refine wm_bipush (x := 112) E dM_classOf_13 (by decide) ?_
      refine wm_icmp_eq (tgt := 24) E dM_classOf_15 (by decide) (fun c15 => ?_) (fun c15 => ?_)
      · have h := (if_pos c15).symm.trans h
        refine wm_pick (lv' := []) [] rfl ?_
        exact w_M_classOf_24 E hQ hR hI μ h
      · have h := (if_neg c15).symm.trans h
        refine wm_iload_n E dM_classOf_18 rfl (j := 0) rfl ?_
        refine wm_bipush (x := 118) E dM_classOf_19 (by decide) ?_
        refine wm_icmp_ne (tgt := 26) E dM_classOf_21 (by decide) (fun c21 => ?_) (fun c21 => ?_)
        · have h := (if_neg c21).symm.trans h
          refine wm_iload_n E dM_classOf_26 rfl (j := 0) rfl ?_
          refine wm_bipush (x := 99) E dM_classOf_27 (by decide) ?_
          refine wm_icmp_eq (tgt := 74) E dM_classOf_29 (by decide) (fun c29 => ?_) (fun c29 => ?_)
          · have h := (if_pos c29).symm.trans h
            refine wm_pick (lv' := []) [] rfl ?_
            exact w_M_classOf_74 E hQ hR hI μ h
          · have h := (if_neg c29).symm.trans h
            refine wm_iload_n E dM_classOf_32 rfl (j := 0) rfl ?_
            refine wm_bipush (x := 103) E dM_classOf_33 (by decide) ?_
            refine wm_icmp_eq (tgt := 74) E dM_classOf_35 (by decide) (fun c35 => ?_) (fun c35 => ?_)
            · have h := (if_pos c35).symm.trans h
              refine wm_pick (lv' := []) [] rfl ?_
              exact w_M_classOf_74 E hQ hR hI μ h
            · have h := (if_neg c35).symm.trans h
              refine wm_iload_n E dM_classOf_38 rfl (j := 0) rfl ?_
              refine wm_bipush (x := 106) E dM_classOf_39 (by decide) ?_
              refine wm_icmp_eq (tgt := 74) E dM_classOf_41 (by decide) (fun c41 => ?_) (fun c41 => ?_)
              · have h := (if_pos c41).symm.trans h
                refine wm_pick (lv' := []) [] rfl ?_
                exact w_M_classOf_74 E hQ hR hI μ h
              · have h := (if_neg c41).symm.trans h
                refine wm_iload_n E dM_classOf_44 rfl (j := 0) rfl ?_
                refine wm_bipush (x := 107) E dM_classOf_45 (by decide) ?_
                refine wm_icmp_eq (tgt := 74) E dM_classOf_47 (by decide) (fun c47 => ?_) (fun c47 => ?_)
                · have h := (if_pos c47).symm.trans h
                  refine wm_pick (lv' := []) [] rfl ?_
                  exact w_M_classOf_74 E hQ hR hI μ h
                · have h := (if_neg c47).symm.trans h
                  refine wm_iload_n E dM_classOf_50 rfl (j := 0) rfl ?_
                  refine wm_bipush (x := 113) E dM_classOf_51 (by decide) ?_
                  refine wm_icmp_eq (tgt := 74) E dM_classOf_53 (by decide) (fun c53 => ?_) (fun c53 => ?_)
                  · have h := (if_pos c53).symm.trans h
                    refine wm_pick (lv' := []) [] rfl ?_
                    exact w_M_classOf_74 E hQ hR hI μ h
                  · have h := (if_neg c53).symm.trans h
                    refine wm_iload_n E dM_classOf_56 rfl (j := 0) rfl ?_
                    refine wm_bipush (x := 115) E dM_classOf_57 (by decide) ?_
                    refine wm_icmp_eq (tgt := 74) E dM_classOf_59 (by decide) (fun c59 => ?_) (fun c59 => ?_)
                    · have h := (if_pos c59).symm.trans h
                      refine wm_pick (lv' := []) [] rfl ?_
                      exact w_M_classOf_74 E hQ hR hI μ h
                    · have h := (if_neg c59).symm.trans h
                      refine wm_iload_n E dM_classOf_62 rfl (j := 0) rfl ?_
                      refine wm_bipush (x := 120) E dM_classOf_63 (by decide) ?_
                      refine wm_icmp_eq (tgt := 74) E dM_classOf_65 (by decide) (fun c65 => ?_) (fun c65 => ?_)
                      · have h := (if_pos c65).symm.trans h
                        refine wm_pick (lv' := []) [] rfl ?_
                        exact w_M_classOf_74 E hQ hR hI μ h
                      · have h := (if_neg c65).symm.trans h
                        refine wm_iload_n E dM_classOf_68 rfl (j := 0) rfl ?_
                        refine wm_bipush (x := 122) E dM_classOf_69 (by decide) ?_
                        refine wm_icmp_ne (tgt := 76) E dM_classOf_71 (by decide) (fun c71 => ?_) (fun c71 => ?_)
                        · have h := (if_neg c71).symm.trans h
                          refine wm_iload_n E dM_classOf_76 rfl (j := 0) rfl ?_
                          refine wm_bipush (x := 100) E dM_classOf_77 (by decide) ?_
                          refine wm_icmp_eq (tgt := 88) E dM_classOf_79 (by decide) (fun c79 => ?_) (fun c79 => ?_)
                          · have h := (if_pos c79).symm.trans h
                            refine wm_pick (lv' := []) [] rfl ?_
                            exact w_M_classOf_88 E hQ hR hI μ h
                          · have h := (if_neg c79).symm.trans h
                            refine wm_iload_n E dM_classOf_82 rfl (j := 0) rfl ?_
                            refine wm_bipush (x := 116) E dM_classOf_83 (by decide) ?_
                            refine wm_icmp_ne (tgt := 90) E dM_classOf_85 (by decide) (fun c85 => ?_) (fun c85 => ?_)
                            · have h := (if_neg c85).symm.trans h
                              refine wm_iload_n E dM_classOf_90 rfl (j := 0) rfl ?_
                              refine wm_bipush (x := 108) E dM_classOf_91 (by decide) ?_
                              refine wm_icmp_ne (tgt := 98) E dM_classOf_93 (by decide) (fun c93 => ?_) (fun c93 => ?_)
                              · have h := (if_neg c93).symm.trans h
                                refine wm_iload_n E dM_classOf_98 rfl (j := 0) rfl ?_
                                refine wm_bipush (x := 109) E dM_classOf_99 (by decide) ?_
                                refine wm_icmp_eq (tgt := 110) E dM_classOf_101 (by decide) (fun c101 => ?_) (fun c101 => ?_)
                                · have h := (if_pos c101).symm.trans h
                                  refine wm_pick (lv' := []) [] rfl ?_
                                  exact w_M_classOf_110 E hQ hR hI μ h
                                · have h := (if_neg c101).symm.trans h
                                  refine wm_iload_n E dM_classOf_104 rfl (j := 0) rfl ?_
                                  refine wm_bipush (x := 110) E dM_classOf_105 (by decide) ?_
                                  refine wm_icmp_ne (tgt := 112) E dM_classOf_107 (by decide) (fun c107 => ?_) (fun c107 => ?_)
                                  · have h := (if_neg c107).symm.trans h
                                    refine wm_iload_n E dM_classOf_112 rfl (j := 0) rfl ?_
                                    refine wm_bipush (x := 114) E dM_classOf_113 (by decide) ?_
                                    refine wm_icmp_ne (tgt := 123) E dM_classOf_115 (by decide) (fun c115 => ?_) (fun c115 => ?_)
                                    · have h := (if_neg c115).symm.trans h
                                      refine wm_iconst (x := 0) E dM_classOf_123 (by decide) ?_
                                      refine wm_pick (lv' := []) [] rfl ?_
                                      exact w_M_classOf_124 E hQ hR hI 0 μ h
                                    · have h := (if_pos c115).symm.trans h
                                      refine wm_bipush (x := 6) E dM_classOf_118 (by decide) ?_
                                      refine wm_goto (tgt := 124) E dM_classOf_120 (by decide) ?_
                                      refine wm_pick (lv' := []) [] rfl ?_
                                      exact w_M_classOf_124 E hQ hR hI 6 μ h
                                  · have h := (if_pos c107).symm.trans h
                                    refine wm_pick (lv' := []) [] rfl ?_
                                    exact w_M_classOf_110 E hQ hR hI μ h
                              · have h := (if_pos c93).symm.trans h
                                refine wm_iconst (x := 4) E dM_classOf_96 (by decide) ?_
                                exact wm_iret (rt := .int) E hQ (rtI h) (rtM h) (by decide) (by decide) dM_classOf_97
                            · have h := (if_pos c85).symm.trans h
                              refine wm_pick (lv' := []) [] rfl ?_
                              exact w_M_classOf_88 E hQ hR hI μ h
                        · have h := (if_pos c71).symm.trans h
                          refine wm_pick (lv' := []) [] rfl ?_
                          exact w_M_classOf_74 E hQ hR hI μ h
        · have h := (if_pos c21).symm.trans h
          refine wm_pick (lv' := []) [] rfl ?_
          exact w_M_classOf_24 E hQ hR hI μ h
def B_M_soundOf_88  (v1 : Int32) (μ : Mem) : Option (Int32 × Mem) := some (v1, μ)
set_option maxHeartbeats 4000000 in
set_option maxRecDepth 100000 in
theorem w_M_soundOf_88 {X : CX} (E : EV X prog_13_method_24_code 5 "PlaceFinderModel" (some .int)) {μ0 μ' : Mem} {r : Int32} (hQ : RQ X 0 0 μ0 (some (vI r)) μ') (hR : xR X = { frames := 1, cells := 0, slots := 0, locals := 20 }) (hI : X.2.2.2.2.2.2.2.2.2.2.2.1.name = "soundOf")  (v1 : Int32) (μ : Mem) (h : B_M_soundOf_88  v1 μ = some (r, μ')) : WM X 5 88 [(1, vI v1)] [] 0 0 μ := by
  have h : (some (v1, μ)) = some (r, μ') := h
  refine wm_iload_n E dM_soundOf_88 rfl (j := 0) rfl ?_
  exact wm_iret (rt := .int) E hQ (rtI h) (rtM h) (by decide) (by decide) dM_soundOf_89
def B_M_soundOf_82 (k23 : Option Nat → Int32 → Int32 → Int32 → Mem → Option (Int32 × Mem)) (v0 : Option Nat) (v1 : Int32) (v2 : Int32) (v3 : Int32) (μ : Mem) : Option (Int32 × Mem) := k23 v0 v1 v2 (v3 + 1) μ
set_option maxHeartbeats 4000000 in
set_option maxRecDepth 100000 in
theorem w_M_soundOf_82 {X : CX} (E : EV X prog_13_method_24_code 5 "PlaceFinderModel" (some .int)) {μ0 μ' : Mem} {r : Int32} (hQ : RQ X 0 0 μ0 (some (vI r)) μ') (hR : xR X = { frames := 1, cells := 0, slots := 0, locals := 20 }) (hI : X.2.2.2.2.2.2.2.2.2.2.2.1.name = "soundOf") (k23 : Option Nat → Int32 → Int32 → Int32 → Mem → Option (Int32 × Mem)) (hk23 : ∀ (v0 : Option Nat) (v1 : Int32) (v2 : Int32) (v3 : Int32) (μ : Mem), k23 v0 v1 v2 v3 μ = some (r, μ') → WM X 5 23 [(0, vR v0), (1, vI v1), (2, vI v2), (3, vI v3)] [] 0 0 μ) (v0 : Option Nat) (v1 : Int32) (v2 : Int32) (v3 : Int32) (μ : Mem) (h : B_M_soundOf_82 k23 v0 v1 v2 v3 μ = some (r, μ')) : WM X 5 82 [(0, vR v0), (1, vI v1), (2, vI v2), (3, vI v3)] [] 0 0 μ := by
  have h : (k23 v0 v1 v2 (v3 + 1) μ) = some (r, μ') := h
  refine wm_iinc (lv' := [(3, vI (v3 + 1)), (0, vR v0), (1, vI v1), (2, vI v2)]) (d := 1) E dM_soundOf_82 (by decide) (j := 3) rfl (by decide) rfl ?_
  refine wm_goto (tgt := 23) E dM_soundOf_85 (by decide) ?_
  refine wm_pick (lv' := [(0, vR v0), (1, vI v1), (2, vI v2), (3, vI (v3 + 1))]) [1, 2, 3, 0] rfl ?_
  exact hk23 v0 v1 v2 (v3 + 1) μ h
def B_M_soundOf_23  : Nat → Option Nat → Int32 → Int32 → Int32 → Mem → Option (Int32 × Mem)
  | 0, _, _, _, _, _ => none
  | n + 1, v0, v1, v2, v3, μ => b1 (gI μ v0 12 38) (fun x25 => if x25 ≤ v3 then B_M_soundOf_88 v1 μ else if 4 ≤ v2 then B_M_soundOf_88 v1 μ else b1 (gR μ v0 12 39) (fun x37 => b1 (aI μ x37 0 v3) (fun x41 => b2 (S_M_classOf x41 μ) (fun x42 m42 => if x42 = 0 then B_M_soundOf_82 (fun v0 v1 v2 v3 μ => B_M_soundOf_23 n v0 v1 v2 v3 μ) v0 v1 v2 v3 m42 else b1 (gR m42 v0 12 39) (fun x55 => b1 (aI m42 x55 0 (v3 - 1)) (fun x61 => b2 (S_M_classOf x61 m42) (fun x62 m62 => if x42 = x62 then B_M_soundOf_82 (fun v0 v1 v2 v3 μ => B_M_soundOf_23 n v0 v1 v2 v3 μ) v0 v1 v2 v3 m62 else b0 ((v1 * 32) + x42) (fun x78 => B_M_soundOf_82 (fun v0 v1 v2 v3 μ => B_M_soundOf_23 n v0 v1 v2 v3 μ) v0 x78 (v2 + 1) v3 m62))))))))
set_option maxHeartbeats 4000000 in
set_option maxRecDepth 100000 in
theorem w_M_soundOf_23 {X : CX} (E : EV X prog_13_method_24_code 5 "PlaceFinderModel" (some .int)) {μ0 μ' : Mem} {r : Int32} (hQ : RQ X 0 0 μ0 (some (vI r)) μ') (hR : xR X = { frames := 1, cells := 0, slots := 0, locals := 20 }) (hI : X.2.2.2.2.2.2.2.2.2.2.2.1.name = "soundOf")  (n : Nat) : ∀ (v0 : Option Nat) (v1 : Int32) (v2 : Int32) (v3 : Int32) (μ : Mem) (h : B_M_soundOf_23  n v0 v1 v2 v3 μ = some (r, μ')), WM X 5 23 [(0, vR v0), (1, vI v1), (2, vI v2), (3, vI v3)] [] 0 0 μ := by
  induction n with
  | zero => intro v0 v1 v2 v3 μ h; cases h
  | succ n ih =>
    intro v0 v1 v2 v3 μ h
    have h : (b1 (gI μ v0 12 38) (fun x25 => if x25 ≤ v3 then B_M_soundOf_88 v1 μ else if 4 ≤ v2 then B_M_soundOf_88 v1 μ else b1 (gR μ v0 12 39) (fun x37 => b1 (aI μ x37 0 v3) (fun x41 => b2 (S_M_classOf x41 μ) (fun x42 m42 => if x42 = 0 then B_M_soundOf_82 (fun v0 v1 v2 v3 μ => B_M_soundOf_23 n v0 v1 v2 v3 μ) v0 v1 v2 v3 m42 else b1 (gR m42 v0 12 39) (fun x55 => b1 (aI m42 x55 0 (v3 - 1)) (fun x61 => b2 (S_M_classOf x61 m42) (fun x62 m62 => if x42 = x62 then B_M_soundOf_82 (fun v0 v1 v2 v3 μ => B_M_soundOf_23 n v0 v1 v2 v3 μ) v0 v1 v2 v3 m62 else b0 ((v1 * 32) + x42) (fun x78 => B_M_soundOf_82 (fun v0 v1 v2 v3 μ => B_M_soundOf_23 n v0 v1 v2 v3 μ) v0 x78 (v2 + 1) v3 m62))))))))) = some (r, μ') := h
    refine wm_iload_n E dM_soundOf_23 rfl (j := 3) rfl ?_
    refine wm_aload_n E dM_soundOf_24 rfl (j := 0) rfl ?_
    refine wm_gI E fd_M_179 h dM_soundOf_25 (fun x25 h => ?_)
    refine wm_icmp_ge (tgt := 88) E dM_soundOf_28 (by decide) (fun c28 => ?_) (fun c28 => ?_)
    · have h := (if_pos c28).symm.trans h
      refine wm_pick (lv' := [(1, vI v1)]) [1] rfl ?_
      exact w_M_soundOf_88 E hQ hR hI v1 μ h
    · have h := (if_neg c28).symm.trans h
      refine wm_iload_n E dM_soundOf_31 rfl (j := 2) rfl ?_
      refine wm_iconst (x := 4) E dM_soundOf_32 (by decide) ?_
      refine wm_icmp_ge (tgt := 88) E dM_soundOf_33 (by decide) (fun c33 => ?_) (fun c33 => ?_)
      · have h := (if_pos c33).symm.trans h
        refine wm_pick (lv' := [(1, vI v1)]) [1] rfl ?_
        exact w_M_soundOf_88 E hQ hR hI v1 μ h
      · have h := (if_neg c33).symm.trans h
        refine wm_aload_n E dM_soundOf_36 rfl (j := 0) rfl ?_
        refine wm_gR E fd_M_110 h dM_soundOf_37 (fun x37 h => ?_)
        refine wm_iload_n E dM_soundOf_40 rfl (j := 3) rfl ?_
        refine wm_iald (t := 0) E rfl h dM_soundOf_41 (fun x41 h => ?_)
        obtain ⟨x42, m42, hc42, h⟩ := b2S h
        refine wm_cS (As := [vI x41]) (st := []) E lk_M_185 sc_M_classOf (C_M_classOf (xl X) X.1 x41 μ _ _ hc42) rfl rfl (by rw [hR]; decide) (by rw [hR]; decide) (Nat.le_of_ble_eq_true rfl) dM_soundOf_42 ?_
        refine wm_istore (lv' := [(4, vI x42), (0, vR v0), (1, vI v1), (2, vI v2), (3, vI v3)]) E dM_soundOf_45 (by decide) rfl ?_
        refine wm_iload E dM_soundOf_47 (j := 0) rfl ?_
        refine wm_if_eq (tgt := 82) E dM_soundOf_49 (by decide) (fun c49 => ?_) (fun c49 => ?_)
        · have h := (if_pos c49).symm.trans h
          refine wm_pick (lv' := [(0, vR v0), (1, vI v1), (2, vI v2), (3, vI v3)]) [1, 2, 3, 4] rfl ?_
          exact w_M_soundOf_82 E hQ hR hI (fun v0 v1 v2 v3 μ => B_M_soundOf_23 n v0 v1 v2 v3 μ) ih v0 v1 v2 v3 m42 h
        · have h := (if_neg c49).symm.trans h
          refine wm_iload E dM_soundOf_52 (j := 0) rfl ?_
          refine wm_aload_n E dM_soundOf_54 rfl (j := 1) rfl ?_
          refine wm_gR E fd_M_110 h dM_soundOf_55 (fun x55 h => ?_)
          refine wm_iload_n E dM_soundOf_58 rfl (j := 4) rfl ?_
          refine wm_iconst (x := 1) E dM_soundOf_59 (by decide) ?_
          refine wm_isub E dM_soundOf_60 ?_
          refine wm_iald (t := 0) E rfl h dM_soundOf_61 (fun x61 h => ?_)
          obtain ⟨x62, m62, hc62, h⟩ := b2S h
          refine wm_cS (As := [vI x61]) (st := [vI x42]) E lk_M_185 sc_M_classOf (C_M_classOf (xl X) X.1 x61 m42 _ _ hc62) rfl rfl (by rw [hR]; decide) (by rw [hR]; decide) (Nat.le_of_ble_eq_true rfl) dM_soundOf_62 ?_
          refine wm_icmp_ne (tgt := 71) E dM_soundOf_65 (by decide) (fun c65 => ?_) (fun c65 => ?_)
          · have h := (if_neg c65).symm.trans h
            refine wm_iload_n E dM_soundOf_71 rfl (j := 2) rfl ?_
            refine wm_bipush (x := 32) E dM_soundOf_72 (by decide) ?_
            refine wm_imul E dM_soundOf_74 ?_
            refine wm_iload E dM_soundOf_75 (j := 0) rfl ?_
            refine wm_iadd E dM_soundOf_77 ?_
            refine wm_letI h (fun x78 h => ?_)
            refine wm_istore_n (lv' := [(1, vI x78), (4, vI x42), (0, vR v0), (2, vI v2), (3, vI v3)]) E dM_soundOf_78 rfl (by decide) rfl ?_
            refine wm_iinc (lv' := [(2, vI (v2 + 1)), (1, vI x78), (4, vI x42), (0, vR v0), (3, vI v3)]) (d := 1) E dM_soundOf_79 (by decide) (j := 3) rfl (by decide) rfl ?_
            refine wm_pick (lv' := [(0, vR v0), (1, vI x78), (2, vI (v2 + 1)), (3, vI v3)]) [3, 1, 0, 4] rfl ?_
            exact w_M_soundOf_82 E hQ hR hI (fun v0 v1 v2 v3 μ => B_M_soundOf_23 n v0 v1 v2 v3 μ) ih v0 x78 (v2 + 1) v3 m62 h
          · have h := (if_pos c65).symm.trans h
            refine wm_goto (tgt := 82) E dM_soundOf_68 (by decide) ?_
            refine wm_pick (lv' := [(0, vR v0), (1, vI v1), (2, vI v2), (3, vI v3)]) [1, 2, 3, 4] rfl ?_
            exact w_M_soundOf_82 E hQ hR hI (fun v0 v1 v2 v3 μ => B_M_soundOf_23 n v0 v1 v2 v3 μ) ih v0 v1 v2 v3 m62 h
def S_M_soundOf (v0 : Option Nat) (μ : Mem) : Option (Int32 × Mem) := b1 (gI μ v0 12 38) (fun x1 => if x1 = 0 then some (0, μ) else b1 (gR μ v0 12 39) (fun x10 => b1 (aI μ x10 0 0) (fun x14 => b0 (x14 - 96) (fun x18 => B_M_soundOf_23 fu v0 x18 1 1 μ))))
set_option maxHeartbeats 4000000 in
set_option maxRecDepth 100000 in
theorem C_M_soundOf (l : Launch) (G : GG) (v0 : Option Nat) (μ μ' : Mem) (r : Int32) (h : S_M_soundOf v0 μ = some (r, μ')) : CT l G y_M_soundOf prog_13_method_24_code 5 (some .int) 1 0 0 20 μ [vR v0] (some (vI r)) μ' := by
  refine wm_met (lv := [(0, vR v0)]) (by decide +kernel) (Nat.le_of_ble_eq_true rfl) rfl (fun X E hQ hR hI => ?_)
  have h : (b1 (gI μ v0 12 38) (fun x1 => if x1 = 0 then some (0, μ) else b1 (gR μ v0 12 39) (fun x10 => b1 (aI μ x10 0 0) (fun x14 => b0 (x14 - 96) (fun x18 => B_M_soundOf_23 fu v0 x18 1 1 μ))))) = some (r, μ') := h
  refine wm_aload_n E dM_soundOf_0 rfl (j := 0) rfl ?_
  refine wm_gI E fd_M_179 h dM_soundOf_1 (fun x1 h => ?_)
  refine wm_if_ne (tgt := 9) E dM_soundOf_4 (by decide) (fun c4 => ?_) (fun c4 => ?_)
  · have h := (if_neg c4).symm.trans h
    refine wm_aload_n E dM_soundOf_9 rfl (j := 0) rfl ?_
    refine wm_gR E fd_M_110 h dM_soundOf_10 (fun x10 h => ?_)
    refine wm_iconst (x := 0) E dM_soundOf_13 (by decide) ?_
    refine wm_iald (t := 0) E rfl h dM_soundOf_14 (fun x14 h => ?_)
    refine wm_bipush (x := 96) E dM_soundOf_15 (by decide) ?_
    refine wm_isub E dM_soundOf_17 ?_
    refine wm_letI h (fun x18 h => ?_)
    refine wm_istore_n (lv' := [(1, vI x18), (0, vR v0)]) E dM_soundOf_18 rfl (by decide) rfl ?_
    refine wm_iconst (x := 1) E dM_soundOf_19 (by decide) ?_
    refine wm_istore_n (lv' := [(2, vI 1), (1, vI x18), (0, vR v0)]) E dM_soundOf_20 rfl (by decide) rfl ?_
    refine wm_iconst (x := 1) E dM_soundOf_21 (by decide) ?_
    refine wm_istore_n (lv' := [(3, vI 1), (2, vI 1), (1, vI x18), (0, vR v0)]) E dM_soundOf_22 rfl (by decide) rfl ?_
    refine wm_pick (lv' := [(0, vR v0), (1, vI x18), (2, vI 1), (3, vI 1)]) [3, 2, 1, 0] rfl ?_
    exact w_M_soundOf_23 E hQ hR hI fu v0 x18 1 1 μ h
  · have h := (if_pos c4).symm.trans h
    refine wm_iconst (x := 0) E dM_soundOf_7 (by decide) ?_
    exact wm_iret (rt := .int) E hQ (rtI h) (rtM h) (by decide) (by decide) dM_soundOf_8
def S_M_sound (v0 : Option Nat) (μ : Mem) : Option (Int32 × Mem) := b1 (pV μ v0 12 0 (vI 0)) (fun m2 => b1 (rc m2 v0 12) (fun _ => b2 (S_M_foldTyped v0 m2) (fun x6 m6 => b1 (rc m6 v0 12) (fun _ => b2 (S_M_soundOf v0 m6) (fun x10 m10 => some (x10, m10))))))
set_option maxHeartbeats 4000000 in
set_option maxRecDepth 100000 in
theorem C_M_sound (l : Launch) (G : GG) (v0 : Option Nat) (μ μ' : Mem) (r : Int32) (h : S_M_sound v0 μ = some (r, μ')) : CT l G y_M_sound prog_13_method_25_code 1 (some .int) 3 0 0 67 μ [vR v0] (some (vI r)) μ' := by
  refine wm_met (lv := [(0, vR v0)]) (by decide +kernel) (Nat.le_of_ble_eq_true rfl) rfl (fun X E hQ hR hI => ?_)
  have h : (b1 (pV μ v0 12 0 (vI 0)) (fun m2 => b1 (rc m2 v0 12) (fun _ => b2 (S_M_foldTyped v0 m2) (fun x6 m6 => b1 (rc m6 v0 12) (fun _ => b2 (S_M_soundOf v0 m6) (fun x10 m10 => some (x10, m10))))))) = some (r, μ') := h
  refine wm_aload_n E dM_sound_0 rfl (j := 0) rfl ?_
  refine wm_iconst (x := 0) E dM_sound_1 (by decide) ?_
  refine wm_pI E fp_M_132 (fun q => by cases q) h dM_sound_2 (fun m2 h => ?_)
  refine wm_aload_n E dM_sound_5 rfl (j := 0) rfl ?_
  obtain ⟨u6, hr6, h⟩ := b1S h
  obtain ⟨x6, m6, hc6, h⟩ := b2S h
  refine wm_cV (ci := 12) (As := []) (st := []) E lk_M_188 rfl im_M_foldTyped sl_M_foldTyped hr6 (C_M_foldTyped (xl X) X.1 v0 m2 _ _ hc6) rfl rfl (by rw [hR]; decide) (by rw [hR]; decide) (Nat.le_of_ble_eq_true rfl) dM_sound_6 ?_
  refine wm_aload_n E dM_sound_9 rfl (j := 0) rfl ?_
  obtain ⟨u10, hr10, h⟩ := b1S h
  obtain ⟨x10, m10, hc10, h⟩ := b2S h
  refine wm_cV (ci := 12) (As := []) (st := []) E lk_M_191 rfl im_M_soundOf sl_M_soundOf hr10 (C_M_soundOf (xl X) X.1 v0 m6 _ _ hc10) rfl rfl (by rw [hR]; decide) (by rw [hR]; decide) (Nat.le_of_ble_eq_true rfl) dM_sound_10 ?_
  exact wm_iret (rt := .int) E hQ (rtI h) (rtM h) (by decide) (by decide) dM_sound_13
def B_M_name_110  : Nat → Option Nat → Int32 → Int32 → Mem → Option (Unit × Mem)
  | 0, _, _, _, _ => none
  | n + 1, v0, v4, v5, μ => b1 (gI μ v0 12 38) (fun x113 => if x113 ≤ v5 then b1 (pV μ v0 12 21 (vI 0)) (fun m147 => some ((), m147)) else b1 (gR μ v0 12 13) (fun x120 => b1 (gR μ v0 12 39) (fun x132 => b1 (aI μ x132 0 v5) (fun x137 => b1 (sI μ x120 0 ((10 * v4) + v5) x137) (fun m138 => (fun v0 v4 v5 μ => B_M_name_110 n v0 v4 v5 μ) v0 v4 (v5 + 1) m138)))))
set_option maxHeartbeats 4000000 in
set_option maxRecDepth 100000 in
theorem w_M_name_110 {X : CX} (E : EV X prog_13_method_26_code 6 "PlaceFinderModel" none) {μ0 μ' : Mem} {r : Unit} (hQ : RQ X 0 0 μ0 none μ') (hR : xR X = { frames := 3, cells := 0, slots := 0, locals := 67 }) (hI : X.2.2.2.2.2.2.2.2.2.2.2.1.name = "name")  (n : Nat) : ∀ (v0 : Option Nat) (v4 : Int32) (v5 : Int32) (μ : Mem) (h : B_M_name_110  n v0 v4 v5 μ = some (r, μ')), WM X 6 110 [(0, vR v0), (4, vI v4), (5, vI v5)] [] 0 0 μ := by
  induction n with
  | zero => intro v0 v4 v5 μ h; cases h
  | succ n ih =>
    intro v0 v4 v5 μ h
    have h : (b1 (gI μ v0 12 38) (fun x113 => if x113 ≤ v5 then b1 (pV μ v0 12 21 (vI 0)) (fun m147 => some ((), m147)) else b1 (gR μ v0 12 13) (fun x120 => b1 (gR μ v0 12 39) (fun x132 => b1 (aI μ x132 0 v5) (fun x137 => b1 (sI μ x120 0 ((10 * v4) + v5) x137) (fun m138 => (fun v0 v4 v5 μ => B_M_name_110 n v0 v4 v5 μ) v0 v4 (v5 + 1) m138)))))) = some (r, μ') := h
    refine wm_iload E dM_name_110 (j := 2) rfl ?_
    refine wm_aload_n E dM_name_112 rfl (j := 0) rfl ?_
    refine wm_gI E fd_M_179 h dM_name_113 (fun x113 h => ?_)
    refine wm_icmp_ge (tgt := 145) E dM_name_116 (by decide) (fun c116 => ?_) (fun c116 => ?_)
    · have h := (if_pos c116).symm.trans h
      refine wm_aload_n E dM_name_145 rfl (j := 0) rfl ?_
      refine wm_iconst (x := 0) E dM_name_146 (by decide) ?_
      refine wm_pI E fp_M_172 (fun q => by cases q) h dM_name_147 (fun m147 h => ?_)
      exact wm_vret E hQ rfl (rtM h) (by decide) (by decide) dM_name_150
    · have h := (if_neg c116).symm.trans h
      refine wm_aload_n E dM_name_119 rfl (j := 0) rfl ?_
      refine wm_gR E fd_M_43 h dM_name_120 (fun x120 h => ?_)
      refine wm_bipush (x := 10) E dM_name_123 (by decide) ?_
      refine wm_iload E dM_name_125 (j := 1) rfl ?_
      refine wm_imul E dM_name_127 ?_
      refine wm_iload E dM_name_128 (j := 2) rfl ?_
      refine wm_iadd E dM_name_130 ?_
      refine wm_aload_n E dM_name_131 rfl (j := 0) rfl ?_
      refine wm_gR E fd_M_110 h dM_name_132 (fun x132 h => ?_)
      refine wm_iload E dM_name_135 (j := 2) rfl ?_
      refine wm_iald (t := 0) E rfl h dM_name_137 (fun x137 h => ?_)
      refine wm_iast (t := 0) E rfl h dM_name_138 (fun m138 h => ?_)
      refine wm_iinc (lv' := [(5, vI (v5 + 1)), (0, vR v0), (4, vI v4)]) (d := 1) E dM_name_139 (by decide) (j := 2) rfl (by decide) rfl ?_
      refine wm_goto (tgt := 110) E dM_name_142 (by decide) ?_
      refine wm_pick (lv' := [(0, vR v0), (4, vI v4), (5, vI (v5 + 1))]) [1, 2, 0] rfl ?_
      exact ih v0 v4 (v5 + 1) m138 h
def B_M_name_43  (v0 : Option Nat) (v1 : Int32) (v2 : Int32) (v3 : Int32) (s0 : Option Nat) (s1 : Int32) (μ : Mem) : Option (Unit × Mem) := b1 (pV μ s0 12 0 (vI s1)) (fun m43 => b1 (gI m43 v0 12 0) (fun x47 => if x47 ≤ 0 then b1 (gR m43 v0 12 9) (fun x58 => b1 (aI m43 x58 0 v1) (fun x62 => b0 ((2 * v1) + x62) (fun x64 => b1 (gR m43 v0 12 9) (fun x67 => b1 (aI m43 x67 0 v1) (fun x72 => b1 (sI m43 x67 0 v1 (x72 + 1)) (fun m75 => b1 (rc m75 v0 12) (fun _ => b2 (S_M_foldTyped v0 m75) (fun x77 m77 => b1 (gR m77 v0 12 10) (fun x81 => b1 (sI m77 x81 0 x64 v2) (fun m87 => b1 (gR m87 v0 12 11) (fun x89 => b1 (sI m87 x89 0 x64 v3) (fun m95 => b1 (gR m95 v0 12 12) (fun x97 => b1 (gI m95 v0 12 38) (fun x103 => b1 (sI m95 x97 0 x64 x103) (fun m106 => B_M_name_110 fu v0 x64 0 m106))))))))))))))) else some ((), m43)))
set_option maxHeartbeats 4000000 in
set_option maxRecDepth 100000 in
theorem w_M_name_43 {X : CX} (E : EV X prog_13_method_26_code 6 "PlaceFinderModel" none) {μ0 μ' : Mem} {r : Unit} (hQ : RQ X 0 0 μ0 none μ') (hR : xR X = { frames := 3, cells := 0, slots := 0, locals := 67 }) (hI : X.2.2.2.2.2.2.2.2.2.2.2.1.name = "name")  (v0 : Option Nat) (v1 : Int32) (v2 : Int32) (v3 : Int32) (s0 : Option Nat) (s1 : Int32) (μ : Mem) (h : B_M_name_43  v0 v1 v2 v3 s0 s1 μ = some (r, μ')) : WM X 6 43 [(0, vR v0), (1, vI v1), (2, vI v2), (3, vI v3)] [vI s1, vR s0] 0 0 μ := by
  have h : (b1 (pV μ s0 12 0 (vI s1)) (fun m43 => b1 (gI m43 v0 12 0) (fun x47 => if x47 ≤ 0 then b1 (gR m43 v0 12 9) (fun x58 => b1 (aI m43 x58 0 v1) (fun x62 => b0 ((2 * v1) + x62) (fun x64 => b1 (gR m43 v0 12 9) (fun x67 => b1 (aI m43 x67 0 v1) (fun x72 => b1 (sI m43 x67 0 v1 (x72 + 1)) (fun m75 => b1 (rc m75 v0 12) (fun _ => b2 (S_M_foldTyped v0 m75) (fun x77 m77 => b1 (gR m77 v0 12 10) (fun x81 => b1 (sI m77 x81 0 x64 v2) (fun m87 => b1 (gR m87 v0 12 11) (fun x89 => b1 (sI m87 x89 0 x64 v3) (fun m95 => b1 (gR m95 v0 12 12) (fun x97 => b1 (gI m95 v0 12 38) (fun x103 => b1 (sI m95 x97 0 x64 x103) (fun m106 => B_M_name_110 fu v0 x64 0 m106))))))))))))))) else some ((), m43)))) = some (r, μ') := h
  refine wm_pI E fp_M_132 (fun q => by cases q) h dM_name_43 (fun m43 h => ?_)
  refine wm_aload_n E dM_name_46 rfl (j := 0) rfl ?_
  refine wm_gI E fd_M_132 h dM_name_47 (fun x47 h => ?_)
  refine wm_if_le (tgt := 54) E dM_name_50 (by decide) (fun c50 => ?_) (fun c50 => ?_)
  · have h := (if_pos c50).symm.trans h
    refine wm_iconst (x := 2) E dM_name_54 (by decide) ?_
    refine wm_iload_n E dM_name_55 rfl (j := 1) rfl ?_
    refine wm_imul E dM_name_56 ?_
    refine wm_aload_n E dM_name_57 rfl (j := 0) rfl ?_
    refine wm_gR E fd_M_31 h dM_name_58 (fun x58 h => ?_)
    refine wm_iload_n E dM_name_61 rfl (j := 1) rfl ?_
    refine wm_iald (t := 0) E rfl h dM_name_62 (fun x62 h => ?_)
    refine wm_iadd E dM_name_63 ?_
    refine wm_letI h (fun x64 h => ?_)
    refine wm_istore (lv' := [(4, vI x64), (0, vR v0), (1, vI v1), (2, vI v2), (3, vI v3)]) E dM_name_64 (by decide) rfl ?_
    refine wm_aload_n E dM_name_66 rfl (j := 1) rfl ?_
    refine wm_gR E fd_M_31 h dM_name_67 (fun x67 h => ?_)
    refine wm_iload_n E dM_name_70 rfl (j := 2) rfl ?_
    refine wm_dup2_11 E dM_name_71 rfl rfl ?_
    refine wm_iald (t := 0) E rfl h dM_name_72 (fun x72 h => ?_)
    refine wm_iconst (x := 1) E dM_name_73 (by decide) ?_
    refine wm_iadd E dM_name_74 ?_
    refine wm_iast (t := 0) E rfl h dM_name_75 (fun m75 h => ?_)
    refine wm_aload_n E dM_name_76 rfl (j := 1) rfl ?_
    obtain ⟨u77, hr77, h⟩ := b1S h
    obtain ⟨x77, m77, hc77, h⟩ := b2S h
    refine wm_cV (ci := 12) (As := []) (st := []) E lk_M_188 rfl im_M_foldTyped sl_M_foldTyped hr77 (C_M_foldTyped (xl X) X.1 v0 m75 _ _ hc77) rfl rfl (by rw [hR]; decide) (by rw [hR]; decide) (Nat.le_of_ble_eq_true rfl) dM_name_77 ?_
    refine wm_aload_n E dM_name_80 rfl (j := 1) rfl ?_
    refine wm_gR E fd_M_34 h dM_name_81 (fun x81 h => ?_)
    refine wm_iload E dM_name_84 (j := 0) rfl ?_
    refine wm_iload_n E dM_name_86 rfl (j := 3) rfl ?_
    refine wm_iast (t := 0) E rfl h dM_name_87 (fun m87 h => ?_)
    refine wm_aload_n E dM_name_88 rfl (j := 1) rfl ?_
    refine wm_gR E fd_M_37 h dM_name_89 (fun x89 h => ?_)
    refine wm_iload E dM_name_92 (j := 0) rfl ?_
    refine wm_iload_n E dM_name_94 rfl (j := 4) rfl ?_
    refine wm_iast (t := 0) E rfl h dM_name_95 (fun m95 h => ?_)
    refine wm_aload_n E dM_name_96 rfl (j := 1) rfl ?_
    refine wm_gR E fd_M_40 h dM_name_97 (fun x97 h => ?_)
    refine wm_iload E dM_name_100 (j := 0) rfl ?_
    refine wm_aload_n E dM_name_102 rfl (j := 1) rfl ?_
    refine wm_gI E fd_M_179 h dM_name_103 (fun x103 h => ?_)
    refine wm_iast (t := 0) E rfl h dM_name_106 (fun m106 h => ?_)
    refine wm_iconst (x := 0) E dM_name_107 (by decide) ?_
    refine wm_istore (lv' := [(5, vI 0), (4, vI x64), (0, vR v0), (1, vI v1), (2, vI v2), (3, vI v3)]) E dM_name_108 (by decide) rfl ?_
    refine wm_pick (lv' := [(0, vR v0), (4, vI x64), (5, vI 0)]) [2, 1, 0] rfl ?_
    exact w_M_name_110 E hQ hR hI fu v0 x64 0 m106 h
  · have h := (if_neg c50).symm.trans h
    exact wm_vret E hQ rfl (rtM h) (by decide) (by decide) dM_name_53
def B_M_name_24  (v0 : Option Nat) (v1 : Int32) (v2 : Int32) (v3 : Int32) (s0 : Option Nat) (μ : Mem) : Option (Unit × Mem) := B_M_name_43 v0 v1 v2 v3 s0 1 μ
set_option maxHeartbeats 4000000 in
set_option maxRecDepth 100000 in
theorem w_M_name_24 {X : CX} (E : EV X prog_13_method_26_code 6 "PlaceFinderModel" none) {μ0 μ' : Mem} {r : Unit} (hQ : RQ X 0 0 μ0 none μ') (hR : xR X = { frames := 3, cells := 0, slots := 0, locals := 67 }) (hI : X.2.2.2.2.2.2.2.2.2.2.2.1.name = "name")  (v0 : Option Nat) (v1 : Int32) (v2 : Int32) (v3 : Int32) (s0 : Option Nat) (μ : Mem) (h : B_M_name_24  v0 v1 v2 v3 s0 μ = some (r, μ')) : WM X 6 24 [(0, vR v0), (1, vI v1), (2, vI v2), (3, vI v3)] [vR s0] 0 0 μ := by
  have h : (B_M_name_43 v0 v1 v2 v3 s0 1 μ) = some (r, μ') := h
  refine wm_iconst (x := 1) E dM_name_24 (by decide) ?_
  refine wm_goto (tgt := 43) E dM_name_25 (by decide) ?_
  refine wm_pick (lv' := [(0, vR v0), (1, vI v1), (2, vI v2), (3, vI v3)]) [0, 1, 2, 3] rfl ?_
  exact w_M_name_43 E hQ hR hI v0 v1 v2 v3 s0 1 μ h
def S_M_name (v0 : Option Nat) (v1 : Int32) (v2 : Int32) (v3 : Int32) (μ : Mem) : Option (Unit × Mem) := b1 (rc μ v0 12) (fun _ => b2 (S_M_isPlace v0 v1 μ) (fun x3 m3 => if x3 = 0 then B_M_name_24 v0 v1 v2 v3 v0 m3 else b2 (S_M_isSpan v2 v3 m3) (fun x11 m11 => if x11 = 0 then B_M_name_24 v0 v1 v2 v3 v0 m11 else b1 (gI m11 v0 12 21) (fun x18 => if x18 = 0 then B_M_name_24 v0 v1 v2 v3 v0 m11 else b1 (gR m11 v0 12 9) (fun x29 => b1 (aI m11 x29 0 v1) (fun x33 => if x33 = 2 then B_M_name_43 v0 v1 v2 v3 v0 2 m11 else B_M_name_43 v0 v1 v2 v3 v0 0 m11))))))
set_option maxHeartbeats 4000000 in
set_option maxRecDepth 100000 in
theorem C_M_name (l : Launch) (G : GG) (v0 : Option Nat) (v1 : Int32) (v2 : Int32) (v3 : Int32) (μ μ' : Mem) (r : Unit) (h : S_M_name v0 v1 v2 v3 μ = some (r, μ')) : CT l G y_M_name prog_13_method_26_code 6 none 3 0 0 67 μ [vR v0, vI v1, vI v2, vI v3] none μ' := by
  refine wm_met (lv := [(0, vR v0), (1, vI v1), (2, vI v2), (3, vI v3)]) (by decide +kernel) (Nat.le_of_ble_eq_true rfl) rfl (fun X E hQ hR hI => ?_)
  have h : (b1 (rc μ v0 12) (fun _ => b2 (S_M_isPlace v0 v1 μ) (fun x3 m3 => if x3 = 0 then B_M_name_24 v0 v1 v2 v3 v0 m3 else b2 (S_M_isSpan v2 v3 m3) (fun x11 m11 => if x11 = 0 then B_M_name_24 v0 v1 v2 v3 v0 m11 else b1 (gI m11 v0 12 21) (fun x18 => if x18 = 0 then B_M_name_24 v0 v1 v2 v3 v0 m11 else b1 (gR m11 v0 12 9) (fun x29 => b1 (aI m11 x29 0 v1) (fun x33 => if x33 = 2 then B_M_name_43 v0 v1 v2 v3 v0 2 m11 else B_M_name_43 v0 v1 v2 v3 v0 0 m11))))))) = some (r, μ') := h
  refine wm_aload_n E dM_name_0 rfl (j := 0) rfl ?_
  refine wm_aload_n E dM_name_1 rfl (j := 0) rfl ?_
  refine wm_iload_n E dM_name_2 rfl (j := 1) rfl ?_
  obtain ⟨u3, hr3, h⟩ := b1S h
  obtain ⟨x3, m3, hc3, h⟩ := b2S h
  refine wm_cV (ci := 12) (As := [vI v1]) (st := [vR v0]) E lk_M_154 rfl im_M_isPlace sl_M_isPlace hr3 (C_M_isPlace (xl X) X.1 v0 v1 μ _ _ hc3) rfl rfl (by rw [hR]; decide) (by rw [hR]; decide) (Nat.le_of_ble_eq_true rfl) dM_name_3 ?_
  refine wm_if_eq (tgt := 24) E dM_name_6 (by decide) (fun c6 => ?_) (fun c6 => ?_)
  · have h := (if_pos c6).symm.trans h
    refine wm_pick (lv' := [(0, vR v0), (1, vI v1), (2, vI v2), (3, vI v3)]) [0, 1, 2, 3] rfl ?_
    exact w_M_name_24 E hQ hR hI v0 v1 v2 v3 v0 m3 h
  · have h := (if_neg c6).symm.trans h
    refine wm_iload_n E dM_name_9 rfl (j := 2) rfl ?_
    refine wm_iload_n E dM_name_10 rfl (j := 3) rfl ?_
    obtain ⟨x11, m11, hc11, h⟩ := b2S h
    refine wm_cS (As := [vI v2, vI v3]) (st := [vR v0]) E lk_M_195 sc_M_isSpan (C_M_isSpan (xl X) X.1 v2 v3 m3 _ _ hc11) rfl rfl (by rw [hR]; decide) (by rw [hR]; decide) (Nat.le_of_ble_eq_true rfl) dM_name_11 ?_
    refine wm_if_eq (tgt := 24) E dM_name_14 (by decide) (fun c14 => ?_) (fun c14 => ?_)
    · have h := (if_pos c14).symm.trans h
      refine wm_pick (lv' := [(0, vR v0), (1, vI v1), (2, vI v2), (3, vI v3)]) [0, 1, 2, 3] rfl ?_
      exact w_M_name_24 E hQ hR hI v0 v1 v2 v3 v0 m11 h
    · have h := (if_neg c14).symm.trans h
      refine wm_aload_n E dM_name_17 rfl (j := 0) rfl ?_
      refine wm_gI E fd_M_172 h dM_name_18 (fun x18 h => ?_)
      refine wm_if_ne (tgt := 28) E dM_name_21 (by decide) (fun c21 => ?_) (fun c21 => ?_)
      · have h := (if_neg c21).symm.trans h
        refine wm_aload_n E dM_name_28 rfl (j := 0) rfl ?_
        refine wm_gR E fd_M_31 h dM_name_29 (fun x29 h => ?_)
        refine wm_iload_n E dM_name_32 rfl (j := 1) rfl ?_
        refine wm_iald (t := 0) E rfl h dM_name_33 (fun x33 h => ?_)
        refine wm_iconst (x := 2) E dM_name_34 (by decide) ?_
        refine wm_icmp_ne (tgt := 42) E dM_name_35 (by decide) (fun c35 => ?_) (fun c35 => ?_)
        · have h := (if_neg c35).symm.trans h
          refine wm_iconst (x := 0) E dM_name_42 (by decide) ?_
          refine wm_pick (lv' := [(0, vR v0), (1, vI v1), (2, vI v2), (3, vI v3)]) [0, 1, 2, 3] rfl ?_
          exact w_M_name_43 E hQ hR hI v0 v1 v2 v3 v0 0 m11 h
        · have h := (if_pos c35).symm.trans h
          refine wm_iconst (x := 2) E dM_name_38 (by decide) ?_
          refine wm_goto (tgt := 43) E dM_name_39 (by decide) ?_
          refine wm_pick (lv' := [(0, vR v0), (1, vI v1), (2, vI v2), (3, vI v3)]) [0, 1, 2, 3] rfl ?_
          exact w_M_name_43 E hQ hR hI v0 v1 v2 v3 v0 2 m11 h
      · have h := (if_pos c21).symm.trans h
        refine wm_pick (lv' := [(0, vR v0), (1, vI v1), (2, vI v2), (3, vI v3)]) [0, 1, 2, 3] rfl ?_
        exact w_M_name_24 E hQ hR hI v0 v1 v2 v3 v0 m11 h
def B_M_errorsTo_275 (k3 : Option Nat → Option Nat → Int32 → Int32 → Int32 → Mem → Option (Int32 × Mem)) (k15 : Option Nat → Option Nat → Int32 → Int32 → Int32 → Int32 → Mem → Option (Int32 × Mem)) (v0 : Option Nat) (v1 : Option Nat) (v2 : Int32) (v3 : Int32) (v4 : Int32) (v5 : Int32) (v6 : Int32) (μ : Mem) : Option (Int32 × Mem) := b1 (gR μ v0 12 40) (fun x276 => b1 (sI μ x276 0 ((11 * v4) + v5) v6) (fun m289 => k15 v0 v1 v2 v3 v4 (v5 + 1) m289))
set_option maxHeartbeats 4000000 in
set_option maxRecDepth 100000 in
theorem w_M_errorsTo_275 {X : CX} (E : EV X prog_13_method_27_code 9 "PlaceFinderModel" (some .int)) {μ0 μ' : Mem} {r : Int32} (hQ : RQ X 0 0 μ0 (some (vI r)) μ') (hR : xR X = { frames := 0, cells := 0, slots := 0, locals := 0 }) (hI : X.2.2.2.2.2.2.2.2.2.2.2.1.name = "errorsTo") (k3 : Option Nat → Option Nat → Int32 → Int32 → Int32 → Mem → Option (Int32 × Mem)) (hk3 : ∀ (v0 : Option Nat) (v1 : Option Nat) (v2 : Int32) (v3 : Int32) (v4 : Int32) (μ : Mem), k3 v0 v1 v2 v3 v4 μ = some (r, μ') → WM X 9 3 [(0, vR v0), (1, vR v1), (2, vI v2), (3, vI v3), (4, vI v4)] [] 0 0 μ) (k15 : Option Nat → Option Nat → Int32 → Int32 → Int32 → Int32 → Mem → Option (Int32 × Mem)) (hk15 : ∀ (v0 : Option Nat) (v1 : Option Nat) (v2 : Int32) (v3 : Int32) (v4 : Int32) (v5 : Int32) (μ : Mem), k15 v0 v1 v2 v3 v4 v5 μ = some (r, μ') → WM X 9 15 [(0, vR v0), (1, vR v1), (2, vI v2), (3, vI v3), (4, vI v4), (5, vI v5)] [] 0 0 μ) (v0 : Option Nat) (v1 : Option Nat) (v2 : Int32) (v3 : Int32) (v4 : Int32) (v5 : Int32) (v6 : Int32) (μ : Mem) (h : B_M_errorsTo_275 k3 k15 v0 v1 v2 v3 v4 v5 v6 μ = some (r, μ')) : WM X 9 275 [(0, vR v0), (1, vR v1), (2, vI v2), (3, vI v3), (4, vI v4), (5, vI v5), (6, vI v6)] [] 0 0 μ := by
  have h : (b1 (gR μ v0 12 40) (fun x276 => b1 (sI μ x276 0 ((11 * v4) + v5) v6) (fun m289 => k15 v0 v1 v2 v3 v4 (v5 + 1) m289))) = some (r, μ') := h
  refine wm_aload_n E dM_errorsTo_275 rfl (j := 0) rfl ?_
  refine wm_gR E fd_M_113 h dM_errorsTo_276 (fun x276 h => ?_)
  refine wm_bipush (x := 11) E dM_errorsTo_279 (by decide) ?_
  refine wm_iload E dM_errorsTo_281 (j := 4) rfl ?_
  refine wm_imul E dM_errorsTo_283 ?_
  refine wm_iload E dM_errorsTo_284 (j := 5) rfl ?_
  refine wm_iadd E dM_errorsTo_286 ?_
  refine wm_iload E dM_errorsTo_287 (j := 6) rfl ?_
  refine wm_iast (t := 0) E rfl h dM_errorsTo_289 (fun m289 h => ?_)
  refine wm_iinc (lv' := [(5, vI (v5 + 1)), (0, vR v0), (1, vR v1), (2, vI v2), (3, vI v3), (4, vI v4), (6, vI v6)]) (d := 1) E dM_errorsTo_290 (by decide) (j := 5) rfl (by decide) rfl ?_
  refine wm_goto (tgt := 15) E dM_errorsTo_293 (by decide) ?_
  refine wm_pick (lv' := [(0, vR v0), (1, vR v1), (2, vI v2), (3, vI v3), (4, vI v4), (5, vI (v5 + 1))]) [1, 2, 3, 4, 5, 0] rfl ?_
  exact hk15 v0 v1 v2 v3 v4 (v5 + 1) m289 h
def B_M_errorsTo_223 (k3 : Option Nat → Option Nat → Int32 → Int32 → Int32 → Mem → Option (Int32 × Mem)) (k15 : Option Nat → Option Nat → Int32 → Int32 → Int32 → Int32 → Mem → Option (Int32 × Mem)) (v0 : Option Nat) (v1 : Option Nat) (v2 : Int32) (v3 : Int32) (v4 : Int32) (v5 : Int32) (v6 : Int32) (s0 : Int32) (μ : Mem) : Option (Int32 × Mem) := if s0 = 0 then B_M_errorsTo_275 k3 k15 v0 v1 v2 v3 v4 v5 v6 μ else b1 (gR μ v0 12 40) (fun x231 => b1 (aI μ x231 0 (((11 * (v4 - 2)) + v5) - 2)) (fun x246 => if v6 ≤ (x246 + 1) then B_M_errorsTo_275 k3 k15 v0 v1 v2 v3 v4 v5 v6 μ else b1 (gR μ v0 12 40) (fun x255 => b1 (aI μ x255 0 (((11 * (v4 - 2)) + v5) - 2)) (fun x270 => b0 (x270 + 1) (fun x273 => B_M_errorsTo_275 k3 k15 v0 v1 v2 v3 v4 v5 x273 μ)))))
set_option maxHeartbeats 4000000 in
set_option maxRecDepth 100000 in
theorem w_M_errorsTo_223 {X : CX} (E : EV X prog_13_method_27_code 9 "PlaceFinderModel" (some .int)) {μ0 μ' : Mem} {r : Int32} (hQ : RQ X 0 0 μ0 (some (vI r)) μ') (hR : xR X = { frames := 0, cells := 0, slots := 0, locals := 0 }) (hI : X.2.2.2.2.2.2.2.2.2.2.2.1.name = "errorsTo") (k3 : Option Nat → Option Nat → Int32 → Int32 → Int32 → Mem → Option (Int32 × Mem)) (hk3 : ∀ (v0 : Option Nat) (v1 : Option Nat) (v2 : Int32) (v3 : Int32) (v4 : Int32) (μ : Mem), k3 v0 v1 v2 v3 v4 μ = some (r, μ') → WM X 9 3 [(0, vR v0), (1, vR v1), (2, vI v2), (3, vI v3), (4, vI v4)] [] 0 0 μ) (k15 : Option Nat → Option Nat → Int32 → Int32 → Int32 → Int32 → Mem → Option (Int32 × Mem)) (hk15 : ∀ (v0 : Option Nat) (v1 : Option Nat) (v2 : Int32) (v3 : Int32) (v4 : Int32) (v5 : Int32) (μ : Mem), k15 v0 v1 v2 v3 v4 v5 μ = some (r, μ') → WM X 9 15 [(0, vR v0), (1, vR v1), (2, vI v2), (3, vI v3), (4, vI v4), (5, vI v5)] [] 0 0 μ) (v0 : Option Nat) (v1 : Option Nat) (v2 : Int32) (v3 : Int32) (v4 : Int32) (v5 : Int32) (v6 : Int32) (s0 : Int32) (μ : Mem) (h : B_M_errorsTo_223 k3 k15 v0 v1 v2 v3 v4 v5 v6 s0 μ = some (r, μ')) : WM X 9 223 [(0, vR v0), (1, vR v1), (2, vI v2), (3, vI v3), (4, vI v4), (5, vI v5), (6, vI v6)] [vI s0] 0 0 μ := by
  have h : (if s0 = 0 then B_M_errorsTo_275 k3 k15 v0 v1 v2 v3 v4 v5 v6 μ else b1 (gR μ v0 12 40) (fun x231 => b1 (aI μ x231 0 (((11 * (v4 - 2)) + v5) - 2)) (fun x246 => if v6 ≤ (x246 + 1) then B_M_errorsTo_275 k3 k15 v0 v1 v2 v3 v4 v5 v6 μ else b1 (gR μ v0 12 40) (fun x255 => b1 (aI μ x255 0 (((11 * (v4 - 2)) + v5) - 2)) (fun x270 => b0 (x270 + 1) (fun x273 => B_M_errorsTo_275 k3 k15 v0 v1 v2 v3 v4 v5 x273 μ)))))) = some (r, μ') := h
  refine wm_istore (lv' := [(7, vI s0), (0, vR v0), (1, vR v1), (2, vI v2), (3, vI v3), (4, vI v4), (5, vI v5), (6, vI v6)]) E dM_errorsTo_223 (by decide) rfl ?_
  refine wm_iload E dM_errorsTo_225 (j := 0) rfl ?_
  refine wm_if_eq (tgt := 275) E dM_errorsTo_227 (by decide) (fun c227 => ?_) (fun c227 => ?_)
  · have h := (if_pos c227).symm.trans h
    refine wm_pick (lv' := [(0, vR v0), (1, vR v1), (2, vI v2), (3, vI v3), (4, vI v4), (5, vI v5), (6, vI v6)]) [1, 2, 3, 4, 5, 6, 7] rfl ?_
    exact w_M_errorsTo_275 E hQ hR hI k3 hk3 k15 hk15 v0 v1 v2 v3 v4 v5 v6 μ h
  · have h := (if_neg c227).symm.trans h
    refine wm_aload_n E dM_errorsTo_230 rfl (j := 1) rfl ?_
    refine wm_gR E fd_M_113 h dM_errorsTo_231 (fun x231 h => ?_)
    refine wm_bipush (x := 11) E dM_errorsTo_234 (by decide) ?_
    refine wm_iload E dM_errorsTo_236 (j := 5) rfl ?_
    refine wm_iconst (x := 2) E dM_errorsTo_238 (by decide) ?_
    refine wm_isub E dM_errorsTo_239 ?_
    refine wm_imul E dM_errorsTo_240 ?_
    refine wm_iload E dM_errorsTo_241 (j := 6) rfl ?_
    refine wm_iadd E dM_errorsTo_243 ?_
    refine wm_iconst (x := 2) E dM_errorsTo_244 (by decide) ?_
    refine wm_isub E dM_errorsTo_245 ?_
    refine wm_iald (t := 0) E rfl h dM_errorsTo_246 (fun x246 h => ?_)
    refine wm_iconst (x := 1) E dM_errorsTo_247 (by decide) ?_
    refine wm_iadd E dM_errorsTo_248 ?_
    refine wm_iload E dM_errorsTo_249 (j := 7) rfl ?_
    refine wm_icmp_ge (tgt := 275) E dM_errorsTo_251 (by decide) (fun c251 => ?_) (fun c251 => ?_)
    · have h := (if_pos c251).symm.trans h
      refine wm_pick (lv' := [(0, vR v0), (1, vR v1), (2, vI v2), (3, vI v3), (4, vI v4), (5, vI v5), (6, vI v6)]) [1, 2, 3, 4, 5, 6, 7] rfl ?_
      exact w_M_errorsTo_275 E hQ hR hI k3 hk3 k15 hk15 v0 v1 v2 v3 v4 v5 v6 μ h
    · have h := (if_neg c251).symm.trans h
      refine wm_aload_n E dM_errorsTo_254 rfl (j := 1) rfl ?_
      refine wm_gR E fd_M_113 h dM_errorsTo_255 (fun x255 h => ?_)
      refine wm_bipush (x := 11) E dM_errorsTo_258 (by decide) ?_
      refine wm_iload E dM_errorsTo_260 (j := 5) rfl ?_
      refine wm_iconst (x := 2) E dM_errorsTo_262 (by decide) ?_
      refine wm_isub E dM_errorsTo_263 ?_
      refine wm_imul E dM_errorsTo_264 ?_
      refine wm_iload E dM_errorsTo_265 (j := 6) rfl ?_
      refine wm_iadd E dM_errorsTo_267 ?_
      refine wm_iconst (x := 2) E dM_errorsTo_268 (by decide) ?_
      refine wm_isub E dM_errorsTo_269 ?_
      refine wm_iald (t := 0) E rfl h dM_errorsTo_270 (fun x270 h => ?_)
      refine wm_iconst (x := 1) E dM_errorsTo_271 (by decide) ?_
      refine wm_iadd E dM_errorsTo_272 ?_
      refine wm_letI h (fun x273 h => ?_)
      refine wm_istore (lv' := [(6, vI x273), (7, vI s0), (0, vR v0), (1, vR v1), (2, vI v2), (3, vI v3), (4, vI v4), (5, vI v5)]) E dM_errorsTo_273 (by decide) rfl ?_
      refine wm_pick (lv' := [(0, vR v0), (1, vR v1), (2, vI v2), (3, vI v3), (4, vI v4), (5, vI v5), (6, vI x273)]) [2, 3, 4, 5, 6, 7, 0] rfl ?_
      exact w_M_errorsTo_275 E hQ hR hI k3 hk3 k15 hk15 v0 v1 v2 v3 v4 v5 x273 μ h
def B_M_errorsTo_222 (k3 : Option Nat → Option Nat → Int32 → Int32 → Int32 → Mem → Option (Int32 × Mem)) (k15 : Option Nat → Option Nat → Int32 → Int32 → Int32 → Int32 → Mem → Option (Int32 × Mem)) (v0 : Option Nat) (v1 : Option Nat) (v2 : Int32) (v3 : Int32) (v4 : Int32) (v5 : Int32) (v6 : Int32) (μ : Mem) : Option (Int32 × Mem) := B_M_errorsTo_223 k3 k15 v0 v1 v2 v3 v4 v5 v6 0 μ
set_option maxHeartbeats 4000000 in
set_option maxRecDepth 100000 in
theorem w_M_errorsTo_222 {X : CX} (E : EV X prog_13_method_27_code 9 "PlaceFinderModel" (some .int)) {μ0 μ' : Mem} {r : Int32} (hQ : RQ X 0 0 μ0 (some (vI r)) μ') (hR : xR X = { frames := 0, cells := 0, slots := 0, locals := 0 }) (hI : X.2.2.2.2.2.2.2.2.2.2.2.1.name = "errorsTo") (k3 : Option Nat → Option Nat → Int32 → Int32 → Int32 → Mem → Option (Int32 × Mem)) (hk3 : ∀ (v0 : Option Nat) (v1 : Option Nat) (v2 : Int32) (v3 : Int32) (v4 : Int32) (μ : Mem), k3 v0 v1 v2 v3 v4 μ = some (r, μ') → WM X 9 3 [(0, vR v0), (1, vR v1), (2, vI v2), (3, vI v3), (4, vI v4)] [] 0 0 μ) (k15 : Option Nat → Option Nat → Int32 → Int32 → Int32 → Int32 → Mem → Option (Int32 × Mem)) (hk15 : ∀ (v0 : Option Nat) (v1 : Option Nat) (v2 : Int32) (v3 : Int32) (v4 : Int32) (v5 : Int32) (μ : Mem), k15 v0 v1 v2 v3 v4 v5 μ = some (r, μ') → WM X 9 15 [(0, vR v0), (1, vR v1), (2, vI v2), (3, vI v3), (4, vI v4), (5, vI v5)] [] 0 0 μ) (v0 : Option Nat) (v1 : Option Nat) (v2 : Int32) (v3 : Int32) (v4 : Int32) (v5 : Int32) (v6 : Int32) (μ : Mem) (h : B_M_errorsTo_222 k3 k15 v0 v1 v2 v3 v4 v5 v6 μ = some (r, μ')) : WM X 9 222 [(0, vR v0), (1, vR v1), (2, vI v2), (3, vI v3), (4, vI v4), (5, vI v5), (6, vI v6)] [] 0 0 μ := by
  have h : (B_M_errorsTo_223 k3 k15 v0 v1 v2 v3 v4 v5 v6 0 μ) = some (r, μ') := h
  refine wm_iconst (x := 0) E dM_errorsTo_222 (by decide) ?_
  refine wm_pick (lv' := [(0, vR v0), (1, vR v1), (2, vI v2), (3, vI v3), (4, vI v4), (5, vI v5), (6, vI v6)]) [0, 1, 2, 3, 4, 5, 6] rfl ?_
  exact w_M_errorsTo_223 E hQ hR hI k3 hk3 k15 hk15 v0 v1 v2 v3 v4 v5 v6 0 μ h
def B_M_errorsTo_166 (k3 : Option Nat → Option Nat → Int32 → Int32 → Int32 → Mem → Option (Int32 × Mem)) (k15 : Option Nat → Option Nat → Int32 → Int32 → Int32 → Int32 → Mem → Option (Int32 × Mem)) (v0 : Option Nat) (v1 : Option Nat) (v2 : Int32) (v3 : Int32) (v4 : Int32) (v5 : Int32) (v6 : Int32) (μ : Mem) : Option (Int32 × Mem) := if v4 ≤ 1 then B_M_errorsTo_222 k3 k15 v0 v1 v2 v3 v4 v5 v6 μ else if v5 ≤ 1 then B_M_errorsTo_222 k3 k15 v0 v1 v2 v3 v4 v5 v6 μ else b1 (gR μ v0 12 39) (fun x179 => b1 (aI μ x179 0 (v4 - 1)) (fun x186 => b1 (aI μ v1 0 ((v2 + v5) - 2)) (fun x194 => if x186 = x194 then b1 (gR μ v0 12 39) (fun x199 => b1 (aI μ x199 0 (v4 - 2)) (fun x206 => b1 (aI μ v1 0 ((v2 + v5) - 1)) (fun x214 => if x206 = x214 then B_M_errorsTo_223 k3 k15 v0 v1 v2 v3 v4 v5 v6 1 μ else B_M_errorsTo_222 k3 k15 v0 v1 v2 v3 v4 v5 v6 μ))) else B_M_errorsTo_222 k3 k15 v0 v1 v2 v3 v4 v5 v6 μ)))
set_option maxHeartbeats 4000000 in
set_option maxRecDepth 100000 in
theorem w_M_errorsTo_166 {X : CX} (E : EV X prog_13_method_27_code 9 "PlaceFinderModel" (some .int)) {μ0 μ' : Mem} {r : Int32} (hQ : RQ X 0 0 μ0 (some (vI r)) μ') (hR : xR X = { frames := 0, cells := 0, slots := 0, locals := 0 }) (hI : X.2.2.2.2.2.2.2.2.2.2.2.1.name = "errorsTo") (k3 : Option Nat → Option Nat → Int32 → Int32 → Int32 → Mem → Option (Int32 × Mem)) (hk3 : ∀ (v0 : Option Nat) (v1 : Option Nat) (v2 : Int32) (v3 : Int32) (v4 : Int32) (μ : Mem), k3 v0 v1 v2 v3 v4 μ = some (r, μ') → WM X 9 3 [(0, vR v0), (1, vR v1), (2, vI v2), (3, vI v3), (4, vI v4)] [] 0 0 μ) (k15 : Option Nat → Option Nat → Int32 → Int32 → Int32 → Int32 → Mem → Option (Int32 × Mem)) (hk15 : ∀ (v0 : Option Nat) (v1 : Option Nat) (v2 : Int32) (v3 : Int32) (v4 : Int32) (v5 : Int32) (μ : Mem), k15 v0 v1 v2 v3 v4 v5 μ = some (r, μ') → WM X 9 15 [(0, vR v0), (1, vR v1), (2, vI v2), (3, vI v3), (4, vI v4), (5, vI v5)] [] 0 0 μ) (v0 : Option Nat) (v1 : Option Nat) (v2 : Int32) (v3 : Int32) (v4 : Int32) (v5 : Int32) (v6 : Int32) (μ : Mem) (h : B_M_errorsTo_166 k3 k15 v0 v1 v2 v3 v4 v5 v6 μ = some (r, μ')) : WM X 9 166 [(0, vR v0), (1, vR v1), (2, vI v2), (3, vI v3), (4, vI v4), (5, vI v5), (6, vI v6)] [] 0 0 μ := by
  have h : (if v4 ≤ 1 then B_M_errorsTo_222 k3 k15 v0 v1 v2 v3 v4 v5 v6 μ else if v5 ≤ 1 then B_M_errorsTo_222 k3 k15 v0 v1 v2 v3 v4 v5 v6 μ else b1 (gR μ v0 12 39) (fun x179 => b1 (aI μ x179 0 (v4 - 1)) (fun x186 => b1 (aI μ v1 0 ((v2 + v5) - 2)) (fun x194 => if x186 = x194 then b1 (gR μ v0 12 39) (fun x199 => b1 (aI μ x199 0 (v4 - 2)) (fun x206 => b1 (aI μ v1 0 ((v2 + v5) - 1)) (fun x214 => if x206 = x214 then B_M_errorsTo_223 k3 k15 v0 v1 v2 v3 v4 v5 v6 1 μ else B_M_errorsTo_222 k3 k15 v0 v1 v2 v3 v4 v5 v6 μ))) else B_M_errorsTo_222 k3 k15 v0 v1 v2 v3 v4 v5 v6 μ)))) = some (r, μ') := h
  refine wm_iload E dM_errorsTo_166 (j := 4) rfl ?_
  refine wm_iconst (x := 1) E dM_errorsTo_168 (by decide) ?_
  refine wm_icmp_le (tgt := 222) E dM_errorsTo_169 (by decide) (fun c169 => ?_) (fun c169 => ?_)
  · have h := (if_pos c169).symm.trans h
    refine wm_pick (lv' := [(0, vR v0), (1, vR v1), (2, vI v2), (3, vI v3), (4, vI v4), (5, vI v5), (6, vI v6)]) [0, 1, 2, 3, 4, 5, 6] rfl ?_
    exact w_M_errorsTo_222 E hQ hR hI k3 hk3 k15 hk15 v0 v1 v2 v3 v4 v5 v6 μ h
  · have h := (if_neg c169).symm.trans h
    refine wm_iload E dM_errorsTo_172 (j := 5) rfl ?_
    refine wm_iconst (x := 1) E dM_errorsTo_174 (by decide) ?_
    refine wm_icmp_le (tgt := 222) E dM_errorsTo_175 (by decide) (fun c175 => ?_) (fun c175 => ?_)
    · have h := (if_pos c175).symm.trans h
      refine wm_pick (lv' := [(0, vR v0), (1, vR v1), (2, vI v2), (3, vI v3), (4, vI v4), (5, vI v5), (6, vI v6)]) [0, 1, 2, 3, 4, 5, 6] rfl ?_
      exact w_M_errorsTo_222 E hQ hR hI k3 hk3 k15 hk15 v0 v1 v2 v3 v4 v5 v6 μ h
    · have h := (if_neg c175).symm.trans h
      refine wm_aload_n E dM_errorsTo_178 rfl (j := 0) rfl ?_
      refine wm_gR E fd_M_110 h dM_errorsTo_179 (fun x179 h => ?_)
      refine wm_iload E dM_errorsTo_182 (j := 4) rfl ?_
      refine wm_iconst (x := 1) E dM_errorsTo_184 (by decide) ?_
      refine wm_isub E dM_errorsTo_185 ?_
      refine wm_iald (t := 0) E rfl h dM_errorsTo_186 (fun x186 h => ?_)
      refine wm_aload_n E dM_errorsTo_187 rfl (j := 1) rfl ?_
      refine wm_iload_n E dM_errorsTo_188 rfl (j := 2) rfl ?_
      refine wm_iload E dM_errorsTo_189 (j := 5) rfl ?_
      refine wm_iadd E dM_errorsTo_191 ?_
      refine wm_iconst (x := 2) E dM_errorsTo_192 (by decide) ?_
      refine wm_isub E dM_errorsTo_193 ?_
      refine wm_iald (t := 0) E rfl h dM_errorsTo_194 (fun x194 h => ?_)
      refine wm_icmp_ne (tgt := 222) E dM_errorsTo_195 (by decide) (fun c195 => ?_) (fun c195 => ?_)
      · have h := (if_neg c195).symm.trans h
        refine wm_pick (lv' := [(0, vR v0), (1, vR v1), (2, vI v2), (3, vI v3), (4, vI v4), (5, vI v5), (6, vI v6)]) [0, 1, 2, 3, 4, 5, 6] rfl ?_
        exact w_M_errorsTo_222 E hQ hR hI k3 hk3 k15 hk15 v0 v1 v2 v3 v4 v5 v6 μ h
      · have h := (if_pos c195).symm.trans h
        refine wm_aload_n E dM_errorsTo_198 rfl (j := 0) rfl ?_
        refine wm_gR E fd_M_110 h dM_errorsTo_199 (fun x199 h => ?_)
        refine wm_iload E dM_errorsTo_202 (j := 4) rfl ?_
        refine wm_iconst (x := 2) E dM_errorsTo_204 (by decide) ?_
        refine wm_isub E dM_errorsTo_205 ?_
        refine wm_iald (t := 0) E rfl h dM_errorsTo_206 (fun x206 h => ?_)
        refine wm_aload_n E dM_errorsTo_207 rfl (j := 1) rfl ?_
        refine wm_iload_n E dM_errorsTo_208 rfl (j := 2) rfl ?_
        refine wm_iload E dM_errorsTo_209 (j := 5) rfl ?_
        refine wm_iadd E dM_errorsTo_211 ?_
        refine wm_iconst (x := 1) E dM_errorsTo_212 (by decide) ?_
        refine wm_isub E dM_errorsTo_213 ?_
        refine wm_iald (t := 0) E rfl h dM_errorsTo_214 (fun x214 h => ?_)
        refine wm_icmp_ne (tgt := 222) E dM_errorsTo_215 (by decide) (fun c215 => ?_) (fun c215 => ?_)
        · have h := (if_neg c215).symm.trans h
          refine wm_pick (lv' := [(0, vR v0), (1, vR v1), (2, vI v2), (3, vI v3), (4, vI v4), (5, vI v5), (6, vI v6)]) [0, 1, 2, 3, 4, 5, 6] rfl ?_
          exact w_M_errorsTo_222 E hQ hR hI k3 hk3 k15 hk15 v0 v1 v2 v3 v4 v5 v6 μ h
        · have h := (if_pos c215).symm.trans h
          refine wm_iconst (x := 1) E dM_errorsTo_218 (by decide) ?_
          refine wm_goto (tgt := 223) E dM_errorsTo_219 (by decide) ?_
          refine wm_pick (lv' := [(0, vR v0), (1, vR v1), (2, vI v2), (3, vI v3), (4, vI v4), (5, vI v5), (6, vI v6)]) [0, 1, 2, 3, 4, 5, 6] rfl ?_
          exact w_M_errorsTo_223 E hQ hR hI k3 hk3 k15 hk15 v0 v1 v2 v3 v4 v5 v6 1 μ h
def B_M_errorsTo_164 (k3 : Option Nat → Option Nat → Int32 → Int32 → Int32 → Mem → Option (Int32 × Mem)) (k15 : Option Nat → Option Nat → Int32 → Int32 → Int32 → Int32 → Mem → Option (Int32 × Mem)) (v0 : Option Nat) (v1 : Option Nat) (v2 : Int32) (v3 : Int32) (v4 : Int32) (v5 : Int32) (s0 : Int32) (μ : Mem) : Option (Int32 × Mem) := B_M_errorsTo_166 k3 k15 v0 v1 v2 v3 v4 v5 s0 μ
set_option maxHeartbeats 4000000 in
set_option maxRecDepth 100000 in
theorem w_M_errorsTo_164 {X : CX} (E : EV X prog_13_method_27_code 9 "PlaceFinderModel" (some .int)) {μ0 μ' : Mem} {r : Int32} (hQ : RQ X 0 0 μ0 (some (vI r)) μ') (hR : xR X = { frames := 0, cells := 0, slots := 0, locals := 0 }) (hI : X.2.2.2.2.2.2.2.2.2.2.2.1.name = "errorsTo") (k3 : Option Nat → Option Nat → Int32 → Int32 → Int32 → Mem → Option (Int32 × Mem)) (hk3 : ∀ (v0 : Option Nat) (v1 : Option Nat) (v2 : Int32) (v3 : Int32) (v4 : Int32) (μ : Mem), k3 v0 v1 v2 v3 v4 μ = some (r, μ') → WM X 9 3 [(0, vR v0), (1, vR v1), (2, vI v2), (3, vI v3), (4, vI v4)] [] 0 0 μ) (k15 : Option Nat → Option Nat → Int32 → Int32 → Int32 → Int32 → Mem → Option (Int32 × Mem)) (hk15 : ∀ (v0 : Option Nat) (v1 : Option Nat) (v2 : Int32) (v3 : Int32) (v4 : Int32) (v5 : Int32) (μ : Mem), k15 v0 v1 v2 v3 v4 v5 μ = some (r, μ') → WM X 9 15 [(0, vR v0), (1, vR v1), (2, vI v2), (3, vI v3), (4, vI v4), (5, vI v5)] [] 0 0 μ) (v0 : Option Nat) (v1 : Option Nat) (v2 : Int32) (v3 : Int32) (v4 : Int32) (v5 : Int32) (s0 : Int32) (μ : Mem) (h : B_M_errorsTo_164 k3 k15 v0 v1 v2 v3 v4 v5 s0 μ = some (r, μ')) : WM X 9 164 [(0, vR v0), (1, vR v1), (2, vI v2), (3, vI v3), (4, vI v4), (5, vI v5)] [vI s0] 0 0 μ := by
  have h : (B_M_errorsTo_166 k3 k15 v0 v1 v2 v3 v4 v5 s0 μ) = some (r, μ') := h
  refine wm_istore (lv' := [(6, vI s0), (0, vR v0), (1, vR v1), (2, vI v2), (3, vI v3), (4, vI v4), (5, vI v5)]) E dM_errorsTo_164 (by decide) rfl ?_
  refine wm_pick (lv' := [(0, vR v0), (1, vR v1), (2, vI v2), (3, vI v3), (4, vI v4), (5, vI v5), (6, vI s0)]) [1, 2, 3, 4, 5, 6, 0] rfl ?_
  exact w_M_errorsTo_166 E hQ hR hI k3 hk3 k15 hk15 v0 v1 v2 v3 v4 v5 s0 μ h
def B_M_errorsTo_148 (k3 : Option Nat → Option Nat → Int32 → Int32 → Int32 → Mem → Option (Int32 × Mem)) (k15 : Option Nat → Option Nat → Int32 → Int32 → Int32 → Int32 → Mem → Option (Int32 × Mem)) (v0 : Option Nat) (v1 : Option Nat) (v2 : Int32) (v3 : Int32) (v4 : Int32) (v5 : Int32) (v8 : Int32) (s0 : Int32) (μ : Mem) : Option (Int32 × Mem) := if s0 ≤ v8 then B_M_errorsTo_164 k3 k15 v0 v1 v2 v3 v4 v5 s0 μ else B_M_errorsTo_164 k3 k15 v0 v1 v2 v3 v4 v5 v8 μ
set_option maxHeartbeats 4000000 in
set_option maxRecDepth 100000 in
theorem w_M_errorsTo_148 {X : CX} (E : EV X prog_13_method_27_code 9 "PlaceFinderModel" (some .int)) {μ0 μ' : Mem} {r : Int32} (hQ : RQ X 0 0 μ0 (some (vI r)) μ') (hR : xR X = { frames := 0, cells := 0, slots := 0, locals := 0 }) (hI : X.2.2.2.2.2.2.2.2.2.2.2.1.name = "errorsTo") (k3 : Option Nat → Option Nat → Int32 → Int32 → Int32 → Mem → Option (Int32 × Mem)) (hk3 : ∀ (v0 : Option Nat) (v1 : Option Nat) (v2 : Int32) (v3 : Int32) (v4 : Int32) (μ : Mem), k3 v0 v1 v2 v3 v4 μ = some (r, μ') → WM X 9 3 [(0, vR v0), (1, vR v1), (2, vI v2), (3, vI v3), (4, vI v4)] [] 0 0 μ) (k15 : Option Nat → Option Nat → Int32 → Int32 → Int32 → Int32 → Mem → Option (Int32 × Mem)) (hk15 : ∀ (v0 : Option Nat) (v1 : Option Nat) (v2 : Int32) (v3 : Int32) (v4 : Int32) (v5 : Int32) (μ : Mem), k15 v0 v1 v2 v3 v4 v5 μ = some (r, μ') → WM X 9 15 [(0, vR v0), (1, vR v1), (2, vI v2), (3, vI v3), (4, vI v4), (5, vI v5)] [] 0 0 μ) (v0 : Option Nat) (v1 : Option Nat) (v2 : Int32) (v3 : Int32) (v4 : Int32) (v5 : Int32) (v8 : Int32) (s0 : Int32) (μ : Mem) (h : B_M_errorsTo_148 k3 k15 v0 v1 v2 v3 v4 v5 v8 s0 μ = some (r, μ')) : WM X 9 148 [(0, vR v0), (1, vR v1), (2, vI v2), (3, vI v3), (4, vI v4), (5, vI v5), (8, vI v8)] [vI s0] 0 0 μ := by
  have h : (if s0 ≤ v8 then B_M_errorsTo_164 k3 k15 v0 v1 v2 v3 v4 v5 s0 μ else B_M_errorsTo_164 k3 k15 v0 v1 v2 v3 v4 v5 v8 μ) = some (r, μ') := h
  refine wm_istore (lv' := [(6, vI s0), (0, vR v0), (1, vR v1), (2, vI v2), (3, vI v3), (4, vI v4), (5, vI v5), (8, vI v8)]) E dM_errorsTo_148 (by decide) rfl ?_
  refine wm_iload E dM_errorsTo_150 (j := 7) rfl ?_
  refine wm_iload E dM_errorsTo_152 (j := 0) rfl ?_
  refine wm_icmp_ge (tgt := 162) E dM_errorsTo_154 (by decide) (fun c154 => ?_) (fun c154 => ?_)
  · have h := (if_pos c154).symm.trans h
    refine wm_iload E dM_errorsTo_162 (j := 0) rfl ?_
    refine wm_pick (lv' := [(0, vR v0), (1, vR v1), (2, vI v2), (3, vI v3), (4, vI v4), (5, vI v5)]) [1, 2, 3, 4, 5, 6] rfl ?_
    exact w_M_errorsTo_164 E hQ hR hI k3 hk3 k15 hk15 v0 v1 v2 v3 v4 v5 s0 μ h
  · have h := (if_neg c154).symm.trans h
    refine wm_iload E dM_errorsTo_157 (j := 7) rfl ?_
    refine wm_goto (tgt := 164) E dM_errorsTo_159 (by decide) ?_
    refine wm_pick (lv' := [(0, vR v0), (1, vR v1), (2, vI v2), (3, vI v3), (4, vI v4), (5, vI v5)]) [1, 2, 3, 4, 5, 6] rfl ?_
    exact w_M_errorsTo_164 E hQ hR hI k3 hk3 k15 hk15 v0 v1 v2 v3 v4 v5 v8 μ h
def B_M_errorsTo_84 (k3 : Option Nat → Option Nat → Int32 → Int32 → Int32 → Mem → Option (Int32 × Mem)) (k15 : Option Nat → Option Nat → Int32 → Int32 → Int32 → Int32 → Mem → Option (Int32 × Mem)) (v0 : Option Nat) (v1 : Option Nat) (v2 : Int32) (v3 : Int32) (v4 : Int32) (v5 : Int32) (s0 : Int32) (μ : Mem) : Option (Int32 × Mem) := if v4 ≤ 0 then B_M_errorsTo_166 k3 k15 v0 v1 v2 v3 v4 v5 s0 μ else if v5 ≤ 0 then B_M_errorsTo_166 k3 k15 v0 v1 v2 v3 v4 v5 s0 μ else b1 (gR μ v0 12 40) (fun x97 => b1 (aI μ x97 0 ((11 * (v4 - 1)) + v5)) (fun x110 => b0 (x110 + 1) (fun x113 => b1 (gR μ v0 12 40) (fun x116 => b1 (aI μ x116 0 (((11 * v4) + v5) - 1)) (fun x129 => b0 (x129 + 1) (fun x132 => if s0 ≤ x113 then B_M_errorsTo_148 k3 k15 v0 v1 v2 v3 v4 v5 x132 s0 μ else B_M_errorsTo_148 k3 k15 v0 v1 v2 v3 v4 v5 x132 x113 μ))))))
set_option maxHeartbeats 4000000 in
set_option maxRecDepth 100000 in
theorem w_M_errorsTo_84 {X : CX} (E : EV X prog_13_method_27_code 9 "PlaceFinderModel" (some .int)) {μ0 μ' : Mem} {r : Int32} (hQ : RQ X 0 0 μ0 (some (vI r)) μ') (hR : xR X = { frames := 0, cells := 0, slots := 0, locals := 0 }) (hI : X.2.2.2.2.2.2.2.2.2.2.2.1.name = "errorsTo") (k3 : Option Nat → Option Nat → Int32 → Int32 → Int32 → Mem → Option (Int32 × Mem)) (hk3 : ∀ (v0 : Option Nat) (v1 : Option Nat) (v2 : Int32) (v3 : Int32) (v4 : Int32) (μ : Mem), k3 v0 v1 v2 v3 v4 μ = some (r, μ') → WM X 9 3 [(0, vR v0), (1, vR v1), (2, vI v2), (3, vI v3), (4, vI v4)] [] 0 0 μ) (k15 : Option Nat → Option Nat → Int32 → Int32 → Int32 → Int32 → Mem → Option (Int32 × Mem)) (hk15 : ∀ (v0 : Option Nat) (v1 : Option Nat) (v2 : Int32) (v3 : Int32) (v4 : Int32) (v5 : Int32) (μ : Mem), k15 v0 v1 v2 v3 v4 v5 μ = some (r, μ') → WM X 9 15 [(0, vR v0), (1, vR v1), (2, vI v2), (3, vI v3), (4, vI v4), (5, vI v5)] [] 0 0 μ) (v0 : Option Nat) (v1 : Option Nat) (v2 : Int32) (v3 : Int32) (v4 : Int32) (v5 : Int32) (s0 : Int32) (μ : Mem) (h : B_M_errorsTo_84 k3 k15 v0 v1 v2 v3 v4 v5 s0 μ = some (r, μ')) : WM X 9 84 [(0, vR v0), (1, vR v1), (2, vI v2), (3, vI v3), (4, vI v4), (5, vI v5)] [vI s0] 0 0 μ := by
  have h : (if v4 ≤ 0 then B_M_errorsTo_166 k3 k15 v0 v1 v2 v3 v4 v5 s0 μ else if v5 ≤ 0 then B_M_errorsTo_166 k3 k15 v0 v1 v2 v3 v4 v5 s0 μ else b1 (gR μ v0 12 40) (fun x97 => b1 (aI μ x97 0 ((11 * (v4 - 1)) + v5)) (fun x110 => b0 (x110 + 1) (fun x113 => b1 (gR μ v0 12 40) (fun x116 => b1 (aI μ x116 0 (((11 * v4) + v5) - 1)) (fun x129 => b0 (x129 + 1) (fun x132 => if s0 ≤ x113 then B_M_errorsTo_148 k3 k15 v0 v1 v2 v3 v4 v5 x132 s0 μ else B_M_errorsTo_148 k3 k15 v0 v1 v2 v3 v4 v5 x132 x113 μ))))))) = some (r, μ') := h
  refine wm_istore (lv' := [(6, vI s0), (0, vR v0), (1, vR v1), (2, vI v2), (3, vI v3), (4, vI v4), (5, vI v5)]) E dM_errorsTo_84 (by decide) rfl ?_
  refine wm_iload E dM_errorsTo_86 (j := 5) rfl ?_
  refine wm_if_le (tgt := 166) E dM_errorsTo_88 (by decide) (fun c88 => ?_) (fun c88 => ?_)
  · have h := (if_pos c88).symm.trans h
    refine wm_pick (lv' := [(0, vR v0), (1, vR v1), (2, vI v2), (3, vI v3), (4, vI v4), (5, vI v5), (6, vI s0)]) [1, 2, 3, 4, 5, 6, 0] rfl ?_
    exact w_M_errorsTo_166 E hQ hR hI k3 hk3 k15 hk15 v0 v1 v2 v3 v4 v5 s0 μ h
  · have h := (if_neg c88).symm.trans h
    refine wm_iload E dM_errorsTo_91 (j := 6) rfl ?_
    refine wm_if_le (tgt := 166) E dM_errorsTo_93 (by decide) (fun c93 => ?_) (fun c93 => ?_)
    · have h := (if_pos c93).symm.trans h
      refine wm_pick (lv' := [(0, vR v0), (1, vR v1), (2, vI v2), (3, vI v3), (4, vI v4), (5, vI v5), (6, vI s0)]) [1, 2, 3, 4, 5, 6, 0] rfl ?_
      exact w_M_errorsTo_166 E hQ hR hI k3 hk3 k15 hk15 v0 v1 v2 v3 v4 v5 s0 μ h
    · have h := (if_neg c93).symm.trans h
      refine wm_aload_n E dM_errorsTo_96 rfl (j := 1) rfl ?_
      refine wm_gR E fd_M_113 h dM_errorsTo_97 (fun x97 h => ?_)
      refine wm_bipush (x := 11) E dM_errorsTo_100 (by decide) ?_
      refine wm_iload E dM_errorsTo_102 (j := 5) rfl ?_
      refine wm_iconst (x := 1) E dM_errorsTo_104 (by decide) ?_
      refine wm_isub E dM_errorsTo_105 ?_
      refine wm_imul E dM_errorsTo_106 ?_
      refine wm_iload E dM_errorsTo_107 (j := 6) rfl ?_
      refine wm_iadd E dM_errorsTo_109 ?_
      refine wm_iald (t := 0) E rfl h dM_errorsTo_110 (fun x110 h => ?_)
      refine wm_iconst (x := 1) E dM_errorsTo_111 (by decide) ?_
      refine wm_iadd E dM_errorsTo_112 ?_
      refine wm_letI h (fun x113 h => ?_)
      refine wm_istore (lv' := [(7, vI x113), (6, vI s0), (0, vR v0), (1, vR v1), (2, vI v2), (3, vI v3), (4, vI v4), (5, vI v5)]) E dM_errorsTo_113 (by decide) rfl ?_
      refine wm_aload_n E dM_errorsTo_115 rfl (j := 2) rfl ?_
      refine wm_gR E fd_M_113 h dM_errorsTo_116 (fun x116 h => ?_)
      refine wm_bipush (x := 11) E dM_errorsTo_119 (by decide) ?_
      refine wm_iload E dM_errorsTo_121 (j := 6) rfl ?_
      refine wm_imul E dM_errorsTo_123 ?_
      refine wm_iload E dM_errorsTo_124 (j := 7) rfl ?_
      refine wm_iadd E dM_errorsTo_126 ?_
      refine wm_iconst (x := 1) E dM_errorsTo_127 (by decide) ?_
      refine wm_isub E dM_errorsTo_128 ?_
      refine wm_iald (t := 0) E rfl h dM_errorsTo_129 (fun x129 h => ?_)
      refine wm_iconst (x := 1) E dM_errorsTo_130 (by decide) ?_
      refine wm_iadd E dM_errorsTo_131 ?_
      refine wm_letI h (fun x132 h => ?_)
      refine wm_istore (lv' := [(8, vI x132), (7, vI x113), (6, vI s0), (0, vR v0), (1, vR v1), (2, vI v2), (3, vI v3), (4, vI v4), (5, vI v5)]) E dM_errorsTo_132 (by decide) rfl ?_
      refine wm_iload E dM_errorsTo_134 (j := 1) rfl ?_
      refine wm_iload E dM_errorsTo_136 (j := 2) rfl ?_
      refine wm_icmp_ge (tgt := 146) E dM_errorsTo_138 (by decide) (fun c138 => ?_) (fun c138 => ?_)
      · have h := (if_pos c138).symm.trans h
        refine wm_iload E dM_errorsTo_146 (j := 2) rfl ?_
        refine wm_pick (lv' := [(0, vR v0), (1, vR v1), (2, vI v2), (3, vI v3), (4, vI v4), (5, vI v5), (8, vI x132)]) [3, 4, 5, 6, 7, 8, 0] rfl ?_
        exact w_M_errorsTo_148 E hQ hR hI k3 hk3 k15 hk15 v0 v1 v2 v3 v4 v5 x132 s0 μ h
      · have h := (if_neg c138).symm.trans h
        refine wm_iload E dM_errorsTo_141 (j := 1) rfl ?_
        refine wm_goto (tgt := 148) E dM_errorsTo_143 (by decide) ?_
        refine wm_pick (lv' := [(0, vR v0), (1, vR v1), (2, vI v2), (3, vI v3), (4, vI v4), (5, vI v5), (8, vI x132)]) [3, 4, 5, 6, 7, 8, 0] rfl ?_
        exact w_M_errorsTo_148 E hQ hR hI k3 hk3 k15 hk15 v0 v1 v2 v3 v4 v5 x132 x113 μ h
def B_M_errorsTo_83 (k3 : Option Nat → Option Nat → Int32 → Int32 → Int32 → Mem → Option (Int32 × Mem)) (k15 : Option Nat → Option Nat → Int32 → Int32 → Int32 → Int32 → Mem → Option (Int32 × Mem)) (v0 : Option Nat) (v1 : Option Nat) (v2 : Int32) (v3 : Int32) (v4 : Int32) (v5 : Int32) (s0 : Int32) (s1 : Int32) (μ : Mem) : Option (Int32 × Mem) := B_M_errorsTo_84 k3 k15 v0 v1 v2 v3 v4 v5 (s0 + s1) μ
set_option maxHeartbeats 4000000 in
set_option maxRecDepth 100000 in
theorem w_M_errorsTo_83 {X : CX} (E : EV X prog_13_method_27_code 9 "PlaceFinderModel" (some .int)) {μ0 μ' : Mem} {r : Int32} (hQ : RQ X 0 0 μ0 (some (vI r)) μ') (hR : xR X = { frames := 0, cells := 0, slots := 0, locals := 0 }) (hI : X.2.2.2.2.2.2.2.2.2.2.2.1.name = "errorsTo") (k3 : Option Nat → Option Nat → Int32 → Int32 → Int32 → Mem → Option (Int32 × Mem)) (hk3 : ∀ (v0 : Option Nat) (v1 : Option Nat) (v2 : Int32) (v3 : Int32) (v4 : Int32) (μ : Mem), k3 v0 v1 v2 v3 v4 μ = some (r, μ') → WM X 9 3 [(0, vR v0), (1, vR v1), (2, vI v2), (3, vI v3), (4, vI v4)] [] 0 0 μ) (k15 : Option Nat → Option Nat → Int32 → Int32 → Int32 → Int32 → Mem → Option (Int32 × Mem)) (hk15 : ∀ (v0 : Option Nat) (v1 : Option Nat) (v2 : Int32) (v3 : Int32) (v4 : Int32) (v5 : Int32) (μ : Mem), k15 v0 v1 v2 v3 v4 v5 μ = some (r, μ') → WM X 9 15 [(0, vR v0), (1, vR v1), (2, vI v2), (3, vI v3), (4, vI v4), (5, vI v5)] [] 0 0 μ) (v0 : Option Nat) (v1 : Option Nat) (v2 : Int32) (v3 : Int32) (v4 : Int32) (v5 : Int32) (s0 : Int32) (s1 : Int32) (μ : Mem) (h : B_M_errorsTo_83 k3 k15 v0 v1 v2 v3 v4 v5 s0 s1 μ = some (r, μ')) : WM X 9 83 [(0, vR v0), (1, vR v1), (2, vI v2), (3, vI v3), (4, vI v4), (5, vI v5)] [vI s1, vI s0] 0 0 μ := by
  have h : (B_M_errorsTo_84 k3 k15 v0 v1 v2 v3 v4 v5 (s0 + s1) μ) = some (r, μ') := h
  refine wm_iadd E dM_errorsTo_83 ?_
  refine wm_pick (lv' := [(0, vR v0), (1, vR v1), (2, vI v2), (3, vI v3), (4, vI v4), (5, vI v5)]) [0, 1, 2, 3, 4, 5] rfl ?_
  exact w_M_errorsTo_84 E hQ hR hI k3 hk3 k15 hk15 v0 v1 v2 v3 v4 v5 (s0 + s1) μ h
def B_M_errorsTo_15 (k3 : Option Nat → Option Nat → Int32 → Int32 → Int32 → Mem → Option (Int32 × Mem)) : Nat → Option Nat → Option Nat → Int32 → Int32 → Int32 → Int32 → Mem → Option (Int32 × Mem)
  | 0, _, _, _, _, _, _, _ => none
  | n + 1, v0, v1, v2, v3, v4, v5, μ => if v3 < v5 then k3 v0 v1 v2 v3 (v4 + 1) μ else if v4 = 0 then B_M_errorsTo_84 k3 (fun v0 v1 v2 v3 v4 v5 μ => B_M_errorsTo_15 k3 n v0 v1 v2 v3 v4 v5 μ) v0 v1 v2 v3 v4 v5 v5 μ else if v5 = 0 then B_M_errorsTo_84 k3 (fun v0 v1 v2 v3 v4 v5 μ => B_M_errorsTo_15 k3 n v0 v1 v2 v3 v4 v5 μ) v0 v1 v2 v3 v4 v5 v4 μ else b1 (gR μ v0 12 40) (fun x42 => b1 (aI μ x42 0 (((11 * (v4 - 1)) + v5) - 1)) (fun x57 => b1 (gR μ v0 12 39) (fun x59 => b1 (aI μ x59 0 (v4 - 1)) (fun x66 => b1 (aI μ v1 0 ((v2 + v5) - 1)) (fun x74 => if x66 = x74 then B_M_errorsTo_83 k3 (fun v0 v1 v2 v3 v4 v5 μ => B_M_errorsTo_15 k3 n v0 v1 v2 v3 v4 v5 μ) v0 v1 v2 v3 v4 v5 x57 0 μ else B_M_errorsTo_83 k3 (fun v0 v1 v2 v3 v4 v5 μ => B_M_errorsTo_15 k3 n v0 v1 v2 v3 v4 v5 μ) v0 v1 v2 v3 v4 v5 x57 1 μ)))))
set_option maxHeartbeats 4000000 in
set_option maxRecDepth 100000 in
theorem w_M_errorsTo_15 {X : CX} (E : EV X prog_13_method_27_code 9 "PlaceFinderModel" (some .int)) {μ0 μ' : Mem} {r : Int32} (hQ : RQ X 0 0 μ0 (some (vI r)) μ') (hR : xR X = { frames := 0, cells := 0, slots := 0, locals := 0 }) (hI : X.2.2.2.2.2.2.2.2.2.2.2.1.name = "errorsTo") (k3 : Option Nat → Option Nat → Int32 → Int32 → Int32 → Mem → Option (Int32 × Mem)) (hk3 : ∀ (v0 : Option Nat) (v1 : Option Nat) (v2 : Int32) (v3 : Int32) (v4 : Int32) (μ : Mem), k3 v0 v1 v2 v3 v4 μ = some (r, μ') → WM X 9 3 [(0, vR v0), (1, vR v1), (2, vI v2), (3, vI v3), (4, vI v4)] [] 0 0 μ) (n : Nat) : ∀ (v0 : Option Nat) (v1 : Option Nat) (v2 : Int32) (v3 : Int32) (v4 : Int32) (v5 : Int32) (μ : Mem) (h : B_M_errorsTo_15 k3 n v0 v1 v2 v3 v4 v5 μ = some (r, μ')), WM X 9 15 [(0, vR v0), (1, vR v1), (2, vI v2), (3, vI v3), (4, vI v4), (5, vI v5)] [] 0 0 μ := by
  induction n with
  | zero => intro v0 v1 v2 v3 v4 v5 μ h; cases h
  | succ n ih =>
    intro v0 v1 v2 v3 v4 v5 μ h
    have h : (if v3 < v5 then k3 v0 v1 v2 v3 (v4 + 1) μ else if v4 = 0 then B_M_errorsTo_84 k3 (fun v0 v1 v2 v3 v4 v5 μ => B_M_errorsTo_15 k3 n v0 v1 v2 v3 v4 v5 μ) v0 v1 v2 v3 v4 v5 v5 μ else if v5 = 0 then B_M_errorsTo_84 k3 (fun v0 v1 v2 v3 v4 v5 μ => B_M_errorsTo_15 k3 n v0 v1 v2 v3 v4 v5 μ) v0 v1 v2 v3 v4 v5 v4 μ else b1 (gR μ v0 12 40) (fun x42 => b1 (aI μ x42 0 (((11 * (v4 - 1)) + v5) - 1)) (fun x57 => b1 (gR μ v0 12 39) (fun x59 => b1 (aI μ x59 0 (v4 - 1)) (fun x66 => b1 (aI μ v1 0 ((v2 + v5) - 1)) (fun x74 => if x66 = x74 then B_M_errorsTo_83 k3 (fun v0 v1 v2 v3 v4 v5 μ => B_M_errorsTo_15 k3 n v0 v1 v2 v3 v4 v5 μ) v0 v1 v2 v3 v4 v5 x57 0 μ else B_M_errorsTo_83 k3 (fun v0 v1 v2 v3 v4 v5 μ => B_M_errorsTo_15 k3 n v0 v1 v2 v3 v4 v5 μ) v0 v1 v2 v3 v4 v5 x57 1 μ)))))) = some (r, μ') := h
    refine wm_iload E dM_errorsTo_15 (j := 5) rfl ?_
    refine wm_iload_n E dM_errorsTo_17 rfl (j := 3) rfl ?_
    refine wm_icmp_gt (tgt := 296) E dM_errorsTo_18 (by decide) (fun c18 => ?_) (fun c18 => ?_)
    · have h := (if_pos c18).symm.trans h
      refine wm_iinc (lv' := [(4, vI (v4 + 1)), (0, vR v0), (1, vR v1), (2, vI v2), (3, vI v3), (5, vI v5)]) (d := 1) E dM_errorsTo_296 (by decide) (j := 4) rfl (by decide) rfl ?_
      refine wm_goto (tgt := 3) E dM_errorsTo_299 (by decide) ?_
      refine wm_pick (lv' := [(0, vR v0), (1, vR v1), (2, vI v2), (3, vI v3), (4, vI (v4 + 1))]) [1, 2, 3, 4, 0] rfl ?_
      exact hk3 v0 v1 v2 v3 (v4 + 1) μ h
    · have h := (if_neg c18).symm.trans h
      refine wm_iload E dM_errorsTo_21 (j := 4) rfl ?_
      refine wm_if_ne (tgt := 31) E dM_errorsTo_23 (by decide) (fun c23 => ?_) (fun c23 => ?_)
      · have h := (if_neg c23).symm.trans h
        refine wm_iload E dM_errorsTo_31 (j := 5) rfl ?_
        refine wm_if_ne (tgt := 41) E dM_errorsTo_33 (by decide) (fun c33 => ?_) (fun c33 => ?_)
        · have h := (if_neg c33).symm.trans h
          refine wm_aload_n E dM_errorsTo_41 rfl (j := 0) rfl ?_
          refine wm_gR E fd_M_113 h dM_errorsTo_42 (fun x42 h => ?_)
          refine wm_bipush (x := 11) E dM_errorsTo_45 (by decide) ?_
          refine wm_iload E dM_errorsTo_47 (j := 4) rfl ?_
          refine wm_iconst (x := 1) E dM_errorsTo_49 (by decide) ?_
          refine wm_isub E dM_errorsTo_50 ?_
          refine wm_imul E dM_errorsTo_51 ?_
          refine wm_iload E dM_errorsTo_52 (j := 5) rfl ?_
          refine wm_iadd E dM_errorsTo_54 ?_
          refine wm_iconst (x := 1) E dM_errorsTo_55 (by decide) ?_
          refine wm_isub E dM_errorsTo_56 ?_
          refine wm_iald (t := 0) E rfl h dM_errorsTo_57 (fun x57 h => ?_)
          refine wm_aload_n E dM_errorsTo_58 rfl (j := 0) rfl ?_
          refine wm_gR E fd_M_110 h dM_errorsTo_59 (fun x59 h => ?_)
          refine wm_iload E dM_errorsTo_62 (j := 4) rfl ?_
          refine wm_iconst (x := 1) E dM_errorsTo_64 (by decide) ?_
          refine wm_isub E dM_errorsTo_65 ?_
          refine wm_iald (t := 0) E rfl h dM_errorsTo_66 (fun x66 h => ?_)
          refine wm_aload_n E dM_errorsTo_67 rfl (j := 1) rfl ?_
          refine wm_iload_n E dM_errorsTo_68 rfl (j := 2) rfl ?_
          refine wm_iload E dM_errorsTo_69 (j := 5) rfl ?_
          refine wm_iadd E dM_errorsTo_71 ?_
          refine wm_iconst (x := 1) E dM_errorsTo_72 (by decide) ?_
          refine wm_isub E dM_errorsTo_73 ?_
          refine wm_iald (t := 0) E rfl h dM_errorsTo_74 (fun x74 h => ?_)
          refine wm_icmp_ne (tgt := 82) E dM_errorsTo_75 (by decide) (fun c75 => ?_) (fun c75 => ?_)
          · have h := (if_neg c75).symm.trans h
            refine wm_iconst (x := 1) E dM_errorsTo_82 (by decide) ?_
            refine wm_pick (lv' := [(0, vR v0), (1, vR v1), (2, vI v2), (3, vI v3), (4, vI v4), (5, vI v5)]) [0, 1, 2, 3, 4, 5] rfl ?_
            exact w_M_errorsTo_83 E hQ hR hI k3 hk3 (fun v0 v1 v2 v3 v4 v5 μ => B_M_errorsTo_15 k3 n v0 v1 v2 v3 v4 v5 μ) ih v0 v1 v2 v3 v4 v5 x57 1 μ h
          · have h := (if_pos c75).symm.trans h
            refine wm_iconst (x := 0) E dM_errorsTo_78 (by decide) ?_
            refine wm_goto (tgt := 83) E dM_errorsTo_79 (by decide) ?_
            refine wm_pick (lv' := [(0, vR v0), (1, vR v1), (2, vI v2), (3, vI v3), (4, vI v4), (5, vI v5)]) [0, 1, 2, 3, 4, 5] rfl ?_
            exact w_M_errorsTo_83 E hQ hR hI k3 hk3 (fun v0 v1 v2 v3 v4 v5 μ => B_M_errorsTo_15 k3 n v0 v1 v2 v3 v4 v5 μ) ih v0 v1 v2 v3 v4 v5 x57 0 μ h
        · have h := (if_pos c33).symm.trans h
          refine wm_iload E dM_errorsTo_36 (j := 4) rfl ?_
          refine wm_goto (tgt := 84) E dM_errorsTo_38 (by decide) ?_
          refine wm_pick (lv' := [(0, vR v0), (1, vR v1), (2, vI v2), (3, vI v3), (4, vI v4), (5, vI v5)]) [0, 1, 2, 3, 4, 5] rfl ?_
          exact w_M_errorsTo_84 E hQ hR hI k3 hk3 (fun v0 v1 v2 v3 v4 v5 μ => B_M_errorsTo_15 k3 n v0 v1 v2 v3 v4 v5 μ) ih v0 v1 v2 v3 v4 v5 v4 μ h
      · have h := (if_pos c23).symm.trans h
        refine wm_iload E dM_errorsTo_26 (j := 5) rfl ?_
        refine wm_goto (tgt := 84) E dM_errorsTo_28 (by decide) ?_
        refine wm_pick (lv' := [(0, vR v0), (1, vR v1), (2, vI v2), (3, vI v3), (4, vI v4), (5, vI v5)]) [0, 1, 2, 3, 4, 5] rfl ?_
        exact w_M_errorsTo_84 E hQ hR hI k3 hk3 (fun v0 v1 v2 v3 v4 v5 μ => B_M_errorsTo_15 k3 n v0 v1 v2 v3 v4 v5 μ) ih v0 v1 v2 v3 v4 v5 v5 μ h
def B_M_errorsTo_3  : Nat → Option Nat → Option Nat → Int32 → Int32 → Int32 → Mem → Option (Int32 × Mem)
  | 0, _, _, _, _, _, _ => none
  | n + 1, v0, v1, v2, v3, v4, μ => b1 (gI μ v0 12 38) (fun x6 => if x6 < v4 then b1 (gR μ v0 12 40) (fun x303 => b1 (gI μ v0 12 38) (fun x309 => b1 (aI μ x303 0 ((11 * x309) + v3)) (fun x315 => some (x315, μ)))) else B_M_errorsTo_15 (fun v0 v1 v2 v3 v4 μ => B_M_errorsTo_3 n v0 v1 v2 v3 v4 μ) fu v0 v1 v2 v3 v4 0 μ)
set_option maxHeartbeats 4000000 in
set_option maxRecDepth 100000 in
theorem w_M_errorsTo_3 {X : CX} (E : EV X prog_13_method_27_code 9 "PlaceFinderModel" (some .int)) {μ0 μ' : Mem} {r : Int32} (hQ : RQ X 0 0 μ0 (some (vI r)) μ') (hR : xR X = { frames := 0, cells := 0, slots := 0, locals := 0 }) (hI : X.2.2.2.2.2.2.2.2.2.2.2.1.name = "errorsTo")  (n : Nat) : ∀ (v0 : Option Nat) (v1 : Option Nat) (v2 : Int32) (v3 : Int32) (v4 : Int32) (μ : Mem) (h : B_M_errorsTo_3  n v0 v1 v2 v3 v4 μ = some (r, μ')), WM X 9 3 [(0, vR v0), (1, vR v1), (2, vI v2), (3, vI v3), (4, vI v4)] [] 0 0 μ := by
  induction n with
  | zero => intro v0 v1 v2 v3 v4 μ h; cases h
  | succ n ih =>
    intro v0 v1 v2 v3 v4 μ h
    have h : (b1 (gI μ v0 12 38) (fun x6 => if x6 < v4 then b1 (gR μ v0 12 40) (fun x303 => b1 (gI μ v0 12 38) (fun x309 => b1 (aI μ x303 0 ((11 * x309) + v3)) (fun x315 => some (x315, μ)))) else B_M_errorsTo_15 (fun v0 v1 v2 v3 v4 μ => B_M_errorsTo_3 n v0 v1 v2 v3 v4 μ) fu v0 v1 v2 v3 v4 0 μ)) = some (r, μ') := h
    refine wm_iload E dM_errorsTo_3 (j := 4) rfl ?_
    refine wm_aload_n E dM_errorsTo_5 rfl (j := 0) rfl ?_
    refine wm_gI E fd_M_179 h dM_errorsTo_6 (fun x6 h => ?_)
    refine wm_icmp_gt (tgt := 302) E dM_errorsTo_9 (by decide) (fun c9 => ?_) (fun c9 => ?_)
    · have h := (if_pos c9).symm.trans h
      refine wm_aload_n E dM_errorsTo_302 rfl (j := 0) rfl ?_
      refine wm_gR E fd_M_113 h dM_errorsTo_303 (fun x303 h => ?_)
      refine wm_bipush (x := 11) E dM_errorsTo_306 (by decide) ?_
      refine wm_aload_n E dM_errorsTo_308 rfl (j := 0) rfl ?_
      refine wm_gI E fd_M_179 h dM_errorsTo_309 (fun x309 h => ?_)
      refine wm_imul E dM_errorsTo_312 ?_
      refine wm_iload_n E dM_errorsTo_313 rfl (j := 3) rfl ?_
      refine wm_iadd E dM_errorsTo_314 ?_
      refine wm_iald (t := 0) E rfl h dM_errorsTo_315 (fun x315 h => ?_)
      exact wm_iret (rt := .int) E hQ (rtI h) (rtM h) (by decide) (by decide) dM_errorsTo_316
    · have h := (if_neg c9).symm.trans h
      refine wm_iconst (x := 0) E dM_errorsTo_12 (by decide) ?_
      refine wm_istore (lv' := [(5, vI 0), (0, vR v0), (1, vR v1), (2, vI v2), (3, vI v3), (4, vI v4)]) E dM_errorsTo_13 (by decide) rfl ?_
      refine wm_pick (lv' := [(0, vR v0), (1, vR v1), (2, vI v2), (3, vI v3), (4, vI v4), (5, vI 0)]) [1, 2, 3, 4, 5, 0] rfl ?_
      exact w_M_errorsTo_15 E hQ hR hI (fun v0 v1 v2 v3 v4 μ => B_M_errorsTo_3 n v0 v1 v2 v3 v4 μ) ih fu v0 v1 v2 v3 v4 0 μ h
def S_M_errorsTo (v0 : Option Nat) (v1 : Option Nat) (v2 : Int32) (v3 : Int32) (μ : Mem) : Option (Int32 × Mem) := B_M_errorsTo_3 fu v0 v1 v2 v3 0 μ
set_option maxHeartbeats 4000000 in
set_option maxRecDepth 100000 in
theorem C_M_errorsTo (l : Launch) (G : GG) (v0 : Option Nat) (v1 : Option Nat) (v2 : Int32) (v3 : Int32) (μ μ' : Mem) (r : Int32) (h : S_M_errorsTo v0 v1 v2 v3 μ = some (r, μ')) : CT l G y_M_errorsTo prog_13_method_27_code 9 (some .int) 0 0 0 0 μ [vR v0, vR v1, vI v2, vI v3] (some (vI r)) μ' := by
  refine wm_met (lv := [(0, vR v0), (1, vR v1), (2, vI v2), (3, vI v3)]) (by decide +kernel) (Nat.le_of_ble_eq_true rfl) rfl (fun X E hQ hR hI => ?_)
  have h : (B_M_errorsTo_3 fu v0 v1 v2 v3 0 μ) = some (r, μ') := h
  refine wm_iconst (x := 0) E dM_errorsTo_0 (by decide) ?_
  refine wm_istore (lv' := [(4, vI 0), (0, vR v0), (1, vR v1), (2, vI v2), (3, vI v3)]) E dM_errorsTo_1 (by decide) rfl ?_
  refine wm_pick (lv' := [(0, vR v0), (1, vR v1), (2, vI v2), (3, vI v3), (4, vI 0)]) [1, 2, 3, 4, 0] rfl ?_
  exact w_M_errorsTo_3 E hQ hR hI fu v0 v1 v2 v3 0 μ h
def B_M_errors_49  (v0 : Option Nat) (v1 : Int32) (v2 : Int32) (s0 : Option Nat) (s1 : Int32) (μ : Mem) : Option (Int32 × Mem) := b1 (pV μ s0 12 0 (vI s1)) (fun m49 => b1 (gI m49 v0 12 0) (fun x53 => if x53 ≤ 0 then b1 (rc m49 v0 12) (fun _ => b2 (S_M_foldTyped v0 m49) (fun x62 m62 => b0 ((2 * v1) + v2) (fun x70 => b1 (gR m62 v0 12 13) (fun x73 => b1 (gR m62 v0 12 12) (fun x81 => b1 (aI m62 x81 0 x70) (fun x85 => b1 (rc m62 v0 12) (fun _ => b2 (S_M_errorsTo v0 x73 (10 * x70) x85 m62) (fun x86 m86 => some (x86, m86))))))))) else some (0, m49)))
set_option maxHeartbeats 4000000 in
set_option maxRecDepth 100000 in
theorem w_M_errors_49 {X : CX} (E : EV X prog_13_method_28_code 4 "PlaceFinderModel" (some .int)) {μ0 μ' : Mem} {r : Int32} (hQ : RQ X 0 0 μ0 (some (vI r)) μ') (hR : xR X = { frames := 3, cells := 0, slots := 0, locals := 67 }) (hI : X.2.2.2.2.2.2.2.2.2.2.2.1.name = "errors")  (v0 : Option Nat) (v1 : Int32) (v2 : Int32) (s0 : Option Nat) (s1 : Int32) (μ : Mem) (h : B_M_errors_49  v0 v1 v2 s0 s1 μ = some (r, μ')) : WM X 4 49 [(0, vR v0), (1, vI v1), (2, vI v2)] [vI s1, vR s0] 0 0 μ := by
  have h : (b1 (pV μ s0 12 0 (vI s1)) (fun m49 => b1 (gI m49 v0 12 0) (fun x53 => if x53 ≤ 0 then b1 (rc m49 v0 12) (fun _ => b2 (S_M_foldTyped v0 m49) (fun x62 m62 => b0 ((2 * v1) + v2) (fun x70 => b1 (gR m62 v0 12 13) (fun x73 => b1 (gR m62 v0 12 12) (fun x81 => b1 (aI m62 x81 0 x70) (fun x85 => b1 (rc m62 v0 12) (fun _ => b2 (S_M_errorsTo v0 x73 (10 * x70) x85 m62) (fun x86 m86 => some (x86, m86))))))))) else some (0, m49)))) = some (r, μ') := h
  refine wm_pI E fp_M_132 (fun q => by cases q) h dM_errors_49 (fun m49 h => ?_)
  refine wm_aload_n E dM_errors_52 rfl (j := 0) rfl ?_
  refine wm_gI E fd_M_132 h dM_errors_53 (fun x53 h => ?_)
  refine wm_if_le (tgt := 61) E dM_errors_56 (by decide) (fun c56 => ?_) (fun c56 => ?_)
  · have h := (if_pos c56).symm.trans h
    refine wm_aload_n E dM_errors_61 rfl (j := 0) rfl ?_
    obtain ⟨u62, hr62, h⟩ := b1S h
    obtain ⟨x62, m62, hc62, h⟩ := b2S h
    refine wm_cV (ci := 12) (As := []) (st := []) E lk_M_188 rfl im_M_foldTyped sl_M_foldTyped hr62 (C_M_foldTyped (xl X) X.1 v0 m49 _ _ hc62) rfl rfl (by rw [hR]; decide) (by rw [hR]; decide) (Nat.le_of_ble_eq_true rfl) dM_errors_62 ?_
    refine wm_iconst (x := 2) E dM_errors_65 (by decide) ?_
    refine wm_iload_n E dM_errors_66 rfl (j := 1) rfl ?_
    refine wm_imul E dM_errors_67 ?_
    refine wm_iload_n E dM_errors_68 rfl (j := 2) rfl ?_
    refine wm_iadd E dM_errors_69 ?_
    refine wm_letI h (fun x70 h => ?_)
    refine wm_istore_n (lv' := [(3, vI x70), (0, vR v0), (1, vI v1), (2, vI v2)]) E dM_errors_70 rfl (by decide) rfl ?_
    refine wm_aload_n E dM_errors_71 rfl (j := 1) rfl ?_
    refine wm_aload_n E dM_errors_72 rfl (j := 1) rfl ?_
    refine wm_gR E fd_M_43 h dM_errors_73 (fun x73 h => ?_)
    refine wm_bipush (x := 10) E dM_errors_76 (by decide) ?_
    refine wm_iload_n E dM_errors_78 rfl (j := 0) rfl ?_
    refine wm_imul E dM_errors_79 ?_
    refine wm_aload_n E dM_errors_80 rfl (j := 1) rfl ?_
    refine wm_gR E fd_M_40 h dM_errors_81 (fun x81 h => ?_)
    refine wm_iload_n E dM_errors_84 rfl (j := 0) rfl ?_
    refine wm_iald (t := 0) E rfl h dM_errors_85 (fun x85 h => ?_)
    obtain ⟨u86, hr86, h⟩ := b1S h
    obtain ⟨x86, m86, hc86, h⟩ := b2S h
    refine wm_cV (ci := 12) (As := [vR x73, vI (10 * x70), vI x85]) (st := []) E lk_M_198 rfl im_M_errorsTo sl_M_errorsTo hr86 (C_M_errorsTo (xl X) X.1 v0 x73 (10 * x70) x85 m62 _ _ hc86) rfl rfl (by rw [hR]; decide) (by rw [hR]; decide) (Nat.le_of_ble_eq_true rfl) dM_errors_86 ?_
    exact wm_iret (rt := .int) E hQ (rtI h) (rtM h) (by decide) (by decide) dM_errors_89
  · have h := (if_neg c56).symm.trans h
    refine wm_iconst (x := 0) E dM_errors_59 (by decide) ?_
    exact wm_iret (rt := .int) E hQ (rtI h) (rtM h) (by decide) (by decide) dM_errors_60
def B_M_errors_44  (v0 : Option Nat) (v1 : Int32) (v2 : Int32) (s0 : Option Nat) (μ : Mem) : Option (Int32 × Mem) := B_M_errors_49 v0 v1 v2 s0 1 μ
set_option maxHeartbeats 4000000 in
set_option maxRecDepth 100000 in
theorem w_M_errors_44 {X : CX} (E : EV X prog_13_method_28_code 4 "PlaceFinderModel" (some .int)) {μ0 μ' : Mem} {r : Int32} (hQ : RQ X 0 0 μ0 (some (vI r)) μ') (hR : xR X = { frames := 3, cells := 0, slots := 0, locals := 67 }) (hI : X.2.2.2.2.2.2.2.2.2.2.2.1.name = "errors")  (v0 : Option Nat) (v1 : Int32) (v2 : Int32) (s0 : Option Nat) (μ : Mem) (h : B_M_errors_44  v0 v1 v2 s0 μ = some (r, μ')) : WM X 4 44 [(0, vR v0), (1, vI v1), (2, vI v2)] [vR s0] 0 0 μ := by
  have h : (B_M_errors_49 v0 v1 v2 s0 1 μ) = some (r, μ') := h
  refine wm_iconst (x := 1) E dM_errors_44 (by decide) ?_
  refine wm_goto (tgt := 49) E dM_errors_45 (by decide) ?_
  refine wm_pick (lv' := [(0, vR v0), (1, vI v1), (2, vI v2)]) [0, 1, 2] rfl ?_
  exact w_M_errors_49 E hQ hR hI v0 v1 v2 s0 1 μ h
def B_M_errors_28  (v0 : Option Nat) (v1 : Int32) (v2 : Int32) (s0 : Option Nat) (s1 : Int32) (s2 : Int32) (s3 : Option Nat) (s4 : Int32) (μ : Mem) : Option (Int32 × Mem) := b1 (aI μ s3 0 s4) (fun x28 => b2 (S_M_in s1 s2 (x28 - 1) μ) (fun x31 m31 => if x31 = 0 then B_M_errors_44 v0 v1 v2 s0 m31 else b1 (gI m31 v0 12 21) (fun x38 => if x38 = 0 then B_M_errors_44 v0 v1 v2 s0 m31 else B_M_errors_49 v0 v1 v2 s0 0 m31)))
set_option maxHeartbeats 4000000 in
set_option maxRecDepth 100000 in
theorem w_M_errors_28 {X : CX} (E : EV X prog_13_method_28_code 4 "PlaceFinderModel" (some .int)) {μ0 μ' : Mem} {r : Int32} (hQ : RQ X 0 0 μ0 (some (vI r)) μ') (hR : xR X = { frames := 3, cells := 0, slots := 0, locals := 67 }) (hI : X.2.2.2.2.2.2.2.2.2.2.2.1.name = "errors")  (v0 : Option Nat) (v1 : Int32) (v2 : Int32) (s0 : Option Nat) (s1 : Int32) (s2 : Int32) (s3 : Option Nat) (s4 : Int32) (μ : Mem) (h : B_M_errors_28  v0 v1 v2 s0 s1 s2 s3 s4 μ = some (r, μ')) : WM X 4 28 [(0, vR v0), (1, vI v1), (2, vI v2)] [vI s4, vR s3, vI s2, vI s1, vR s0] 0 0 μ := by
  have h : (b1 (aI μ s3 0 s4) (fun x28 => b2 (S_M_in s1 s2 (x28 - 1) μ) (fun x31 m31 => if x31 = 0 then B_M_errors_44 v0 v1 v2 s0 m31 else b1 (gI m31 v0 12 21) (fun x38 => if x38 = 0 then B_M_errors_44 v0 v1 v2 s0 m31 else B_M_errors_49 v0 v1 v2 s0 0 m31)))) = some (r, μ') := h
  refine wm_iald (t := 0) E rfl h dM_errors_28 (fun x28 h => ?_)
  refine wm_iconst (x := 1) E dM_errors_29 (by decide) ?_
  refine wm_isub E dM_errors_30 ?_
  obtain ⟨x31, m31, hc31, h⟩ := b2S h
  refine wm_cS (As := [vI s1, vI s2, vI (x28 - 1)]) (st := [vR s0]) E lk_M_139 sc_M_in (C_M_in (xl X) X.1 s1 s2 (x28 - 1) μ _ _ hc31) rfl rfl (by rw [hR]; decide) (by rw [hR]; decide) (Nat.le_of_ble_eq_true rfl) dM_errors_31 ?_
  refine wm_if_eq (tgt := 44) E dM_errors_34 (by decide) (fun c34 => ?_) (fun c34 => ?_)
  · have h := (if_pos c34).symm.trans h
    refine wm_pick (lv' := [(0, vR v0), (1, vI v1), (2, vI v2)]) [0, 1, 2] rfl ?_
    exact w_M_errors_44 E hQ hR hI v0 v1 v2 s0 m31 h
  · have h := (if_neg c34).symm.trans h
    refine wm_aload_n E dM_errors_37 rfl (j := 0) rfl ?_
    refine wm_gI E fd_M_172 h dM_errors_38 (fun x38 h => ?_)
    refine wm_if_ne (tgt := 48) E dM_errors_41 (by decide) (fun c41 => ?_) (fun c41 => ?_)
    · have h := (if_neg c41).symm.trans h
      refine wm_iconst (x := 0) E dM_errors_48 (by decide) ?_
      refine wm_pick (lv' := [(0, vR v0), (1, vI v1), (2, vI v2)]) [0, 1, 2] rfl ?_
      exact w_M_errors_49 E hQ hR hI v0 v1 v2 s0 0 m31 h
    · have h := (if_pos c41).symm.trans h
      refine wm_pick (lv' := [(0, vR v0), (1, vI v1), (2, vI v2)]) [0, 1, 2] rfl ?_
      exact w_M_errors_44 E hQ hR hI v0 v1 v2 s0 m31 h
def S_M_errors (v0 : Option Nat) (v1 : Int32) (v2 : Int32) (μ : Mem) : Option (Int32 × Mem) := b1 (rc μ v0 12) (fun _ => b2 (S_M_isPlace v0 v1 μ) (fun x3 m3 => if x3 = 0 then B_M_errors_44 v0 v1 v2 v0 m3 else b1 (gR m3 v0 12 9) (fun x12 => b1 (rc m3 v0 12) (fun _ => b2 (S_M_isPlace v0 v1 m3) (fun x17 m17 => if x17 = 0 then B_M_errors_28 v0 v1 v2 v0 v2 0 x12 0 m17 else B_M_errors_28 v0 v1 v2 v0 v2 0 x12 v1 m17)))))
set_option maxHeartbeats 4000000 in
set_option maxRecDepth 100000 in
theorem C_M_errors (l : Launch) (G : GG) (v0 : Option Nat) (v1 : Int32) (v2 : Int32) (μ μ' : Mem) (r : Int32) (h : S_M_errors v0 v1 v2 μ = some (r, μ')) : CT l G y_M_errors prog_13_method_28_code 4 (some .int) 3 0 0 67 μ [vR v0, vI v1, vI v2] (some (vI r)) μ' := by
  refine wm_met (lv := [(0, vR v0), (1, vI v1), (2, vI v2)]) (by decide +kernel) (Nat.le_of_ble_eq_true rfl) rfl (fun X E hQ hR hI => ?_)
  have h : (b1 (rc μ v0 12) (fun _ => b2 (S_M_isPlace v0 v1 μ) (fun x3 m3 => if x3 = 0 then B_M_errors_44 v0 v1 v2 v0 m3 else b1 (gR m3 v0 12 9) (fun x12 => b1 (rc m3 v0 12) (fun _ => b2 (S_M_isPlace v0 v1 m3) (fun x17 m17 => if x17 = 0 then B_M_errors_28 v0 v1 v2 v0 v2 0 x12 0 m17 else B_M_errors_28 v0 v1 v2 v0 v2 0 x12 v1 m17)))))) = some (r, μ') := h
  refine wm_aload_n E dM_errors_0 rfl (j := 0) rfl ?_
  refine wm_aload_n E dM_errors_1 rfl (j := 0) rfl ?_
  refine wm_iload_n E dM_errors_2 rfl (j := 1) rfl ?_
  obtain ⟨u3, hr3, h⟩ := b1S h
  obtain ⟨x3, m3, hc3, h⟩ := b2S h
  refine wm_cV (ci := 12) (As := [vI v1]) (st := [vR v0]) E lk_M_154 rfl im_M_isPlace sl_M_isPlace hr3 (C_M_isPlace (xl X) X.1 v0 v1 μ _ _ hc3) rfl rfl (by rw [hR]; decide) (by rw [hR]; decide) (Nat.le_of_ble_eq_true rfl) dM_errors_3 ?_
  refine wm_if_eq (tgt := 44) E dM_errors_6 (by decide) (fun c6 => ?_) (fun c6 => ?_)
  · have h := (if_pos c6).symm.trans h
    refine wm_pick (lv' := [(0, vR v0), (1, vI v1), (2, vI v2)]) [0, 1, 2] rfl ?_
    exact w_M_errors_44 E hQ hR hI v0 v1 v2 v0 m3 h
  · have h := (if_neg c6).symm.trans h
    refine wm_iload_n E dM_errors_9 rfl (j := 2) rfl ?_
    refine wm_iconst (x := 0) E dM_errors_10 (by decide) ?_
    refine wm_aload_n E dM_errors_11 rfl (j := 0) rfl ?_
    refine wm_gR E fd_M_31 h dM_errors_12 (fun x12 h => ?_)
    refine wm_aload_n E dM_errors_15 rfl (j := 0) rfl ?_
    refine wm_iload_n E dM_errors_16 rfl (j := 1) rfl ?_
    obtain ⟨u17, hr17, h⟩ := b1S h
    obtain ⟨x17, m17, hc17, h⟩ := b2S h
    refine wm_cV (ci := 12) (As := [vI v1]) (st := [vR x12, vI 0, vI v2, vR v0]) E lk_M_154 rfl im_M_isPlace sl_M_isPlace hr17 (C_M_isPlace (xl X) X.1 v0 v1 m3 _ _ hc17) rfl rfl (by rw [hR]; decide) (by rw [hR]; decide) (Nat.le_of_ble_eq_true rfl) dM_errors_17 ?_
    refine wm_if_eq (tgt := 27) E dM_errors_20 (by decide) (fun c20 => ?_) (fun c20 => ?_)
    · have h := (if_pos c20).symm.trans h
      refine wm_iconst (x := 0) E dM_errors_27 (by decide) ?_
      refine wm_pick (lv' := [(0, vR v0), (1, vI v1), (2, vI v2)]) [0, 1, 2] rfl ?_
      exact w_M_errors_28 E hQ hR hI v0 v1 v2 v0 v2 0 x12 0 m17 h
    · have h := (if_neg c20).symm.trans h
      refine wm_iload_n E dM_errors_23 rfl (j := 1) rfl ?_
      refine wm_goto (tgt := 28) E dM_errors_24 (by decide) ?_
      refine wm_pick (lv' := [(0, vR v0), (1, vI v1), (2, vI v2)]) [0, 1, 2] rfl ?_
      exact w_M_errors_28 E hQ hR hI v0 v1 v2 v0 v2 0 x12 v1 m17 h
