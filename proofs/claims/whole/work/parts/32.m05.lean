def B_Hi_add_73  (v0 : Option Nat) (v1 : Int32) (v2 : Int64) (v4 : Int32) (μ : Mem) : Option (Unit × Mem) := b1 (gR μ v0 4 1) (fun x74 => b1 (sL μ x74 1 v4 v2) (fun m80 => b1 (gR m80 v0 4 0) (fun x82 => b1 (sI m80 x82 0 v4 v1) (fun m88 => b1 (gI m88 v0 4 2) (fun x91 => b1 (pV m88 v0 4 2 (vI (x91 + 1))) (fun m96 => some ((), m96)))))))
set_option maxHeartbeats 4000000 in
set_option maxRecDepth 100000 in
theorem w_Hi_add_73 {X : CX} (E : EV X prog_5_method_3_code 5 "PlaceFinder$Hits" none) {μ0 μ' : Mem} {r : Unit} (hQ : RQ X 0 0 μ0 none μ') (hR : xR X = { frames := 0, cells := 0, slots := 0, locals := 0 }) (hI : X.2.2.2.2.2.2.2.2.2.2.2.1.name = "add")  (v0 : Option Nat) (v1 : Int32) (v2 : Int64) (v4 : Int32) (μ : Mem) (h : B_Hi_add_73  v0 v1 v2 v4 μ = some (r, μ')) : WM X 5 73 [(0, vR v0), (1, vI v1), (2, vL v2), (4, vI v4)] [] 0 0 μ := by
  have h : (b1 (gR μ v0 4 1) (fun x74 => b1 (sL μ x74 1 v4 v2) (fun m80 => b1 (gR m80 v0 4 0) (fun x82 => b1 (sI m80 x82 0 v4 v1) (fun m88 => b1 (gI m88 v0 4 2) (fun x91 => b1 (pV m88 v0 4 2 (vI (x91 + 1))) (fun m96 => some ((), m96)))))))) = some (r, μ') := h
  refine wm_aload_n E dHi_add_73 rfl (j := 0) rfl ?_
  refine wm_gR E fd_Hi_15 h dHi_add_74 (fun x74 h => ?_)
  refine wm_iload E dHi_add_77 (j := 3) rfl ?_
  refine wm_lload_n E dHi_add_79 rfl (j := 2) rfl ?_
  refine wm_last (t := 1) E rfl h dHi_add_80 (fun m80 h => ?_)
  refine wm_aload_n E dHi_add_81 rfl (j := 0) rfl ?_
  refine wm_gR E fd_Hi_9 h dHi_add_82 (fun x82 h => ?_)
  refine wm_iload E dHi_add_85 (j := 3) rfl ?_
  refine wm_iload_n E dHi_add_87 rfl (j := 1) rfl ?_
  refine wm_iast (t := 0) E rfl h dHi_add_88 (fun m88 h => ?_)
  refine wm_aload_n E dHi_add_89 rfl (j := 0) rfl ?_
  refine wm_dup E dHi_add_90 rfl ?_
  refine wm_gI E fd_Hi_19 h dHi_add_91 (fun x91 h => ?_)
  refine wm_iconst (x := 1) E dHi_add_94 (by decide) ?_
  refine wm_iadd E dHi_add_95 ?_
  refine wm_pI E fp_Hi_19 (fun q => by cases q) h dHi_add_96 (fun m96 h => ?_)
  exact wm_vret E hQ rfl (rtM h) (by decide) (by decide) dHi_add_99
def B_Hi_add_16  : Nat → Option Nat → Int32 → Int64 → Int32 → Mem → Option (Unit × Mem)
  | 0, _, _, _, _, _ => none
  | n + 1, v0, v1, v2, v4, μ => if v4 ≤ 0 then B_Hi_add_73 v0 v1 v2 v4 μ else b1 (gR μ v0 4 1) (fun x22 => b1 (aL μ x22 1 (v4 - 1)) (fun x29 => if (lg_cmp x29 v2) ≤ 0 then B_Hi_add_73 v0 v1 v2 v4 μ else b1 (gR μ v0 4 1) (fun x36 => b1 (gR μ v0 4 1) (fun x42 => b1 (aL μ x42 1 (v4 - 1)) (fun x49 => b1 (sL μ x36 1 v4 x49) (fun m50 => b1 (gR m50 v0 4 0) (fun x52 => b1 (gR m50 v0 4 0) (fun x58 => b1 (aI m50 x58 0 (v4 - 1)) (fun x65 => b1 (sI m50 x52 0 v4 x65) (fun m66 => (fun v0 v1 v2 v4 μ => B_Hi_add_16 n v0 v1 v2 v4 μ) v0 v1 v2 (v4 + (-1)) m66))))))))))
set_option maxHeartbeats 4000000 in
set_option maxRecDepth 100000 in
theorem w_Hi_add_16 {X : CX} (E : EV X prog_5_method_3_code 5 "PlaceFinder$Hits" none) {μ0 μ' : Mem} {r : Unit} (hQ : RQ X 0 0 μ0 none μ') (hR : xR X = { frames := 0, cells := 0, slots := 0, locals := 0 }) (hI : X.2.2.2.2.2.2.2.2.2.2.2.1.name = "add")  (n : Nat) : ∀ (v0 : Option Nat) (v1 : Int32) (v2 : Int64) (v4 : Int32) (μ : Mem) (h : B_Hi_add_16  n v0 v1 v2 v4 μ = some (r, μ')), WM X 5 16 [(0, vR v0), (1, vI v1), (2, vL v2), (4, vI v4)] [] 0 0 μ := by
  induction n with
  | zero => intro v0 v1 v2 v4 μ h; cases h
  | succ n ih =>
    intro v0 v1 v2 v4 μ h
    have h : (if v4 ≤ 0 then B_Hi_add_73 v0 v1 v2 v4 μ else b1 (gR μ v0 4 1) (fun x22 => b1 (aL μ x22 1 (v4 - 1)) (fun x29 => if (lg_cmp x29 v2) ≤ 0 then B_Hi_add_73 v0 v1 v2 v4 μ else b1 (gR μ v0 4 1) (fun x36 => b1 (gR μ v0 4 1) (fun x42 => b1 (aL μ x42 1 (v4 - 1)) (fun x49 => b1 (sL μ x36 1 v4 x49) (fun m50 => b1 (gR m50 v0 4 0) (fun x52 => b1 (gR m50 v0 4 0) (fun x58 => b1 (aI m50 x58 0 (v4 - 1)) (fun x65 => b1 (sI m50 x52 0 v4 x65) (fun m66 => (fun v0 v1 v2 v4 μ => B_Hi_add_16 n v0 v1 v2 v4 μ) v0 v1 v2 (v4 + (-1)) m66))))))))))) = some (r, μ') := h
    refine wm_iload E dHi_add_16 (j := 3) rfl ?_
    refine wm_if_le (tgt := 73) E dHi_add_18 (by decide) (fun c18 => ?_) (fun c18 => ?_)
    · have h := (if_pos c18).symm.trans h
      refine wm_pick (lv' := [(0, vR v0), (1, vI v1), (2, vL v2), (4, vI v4)]) [0, 1, 2, 3] rfl ?_
      exact w_Hi_add_73 E hQ hR hI v0 v1 v2 v4 μ h
    · have h := (if_neg c18).symm.trans h
      refine wm_aload_n E dHi_add_21 rfl (j := 0) rfl ?_
      refine wm_gR E fd_Hi_15 h dHi_add_22 (fun x22 h => ?_)
      refine wm_iload E dHi_add_25 (j := 3) rfl ?_
      refine wm_iconst (x := 1) E dHi_add_27 (by decide) ?_
      refine wm_isub E dHi_add_28 ?_
      refine wm_lald (t := 1) E rfl h dHi_add_29 (fun x29 h => ?_)
      refine wm_lload_n E dHi_add_30 rfl (j := 2) rfl ?_
      refine wm_lcmp E dHi_add_31 ?_
      refine wm_if_le (tgt := 73) E dHi_add_32 (by decide) (fun c32 => ?_) (fun c32 => ?_)
      · have h := (if_pos c32).symm.trans h
        refine wm_pick (lv' := [(0, vR v0), (1, vI v1), (2, vL v2), (4, vI v4)]) [0, 1, 2, 3] rfl ?_
        exact w_Hi_add_73 E hQ hR hI v0 v1 v2 v4 μ h
      · have h := (if_neg c32).symm.trans h
        refine wm_aload_n E dHi_add_35 rfl (j := 0) rfl ?_
        refine wm_gR E fd_Hi_15 h dHi_add_36 (fun x36 h => ?_)
        refine wm_iload E dHi_add_39 (j := 3) rfl ?_
        refine wm_aload_n E dHi_add_41 rfl (j := 0) rfl ?_
        refine wm_gR E fd_Hi_15 h dHi_add_42 (fun x42 h => ?_)
        refine wm_iload E dHi_add_45 (j := 3) rfl ?_
        refine wm_iconst (x := 1) E dHi_add_47 (by decide) ?_
        refine wm_isub E dHi_add_48 ?_
        refine wm_lald (t := 1) E rfl h dHi_add_49 (fun x49 h => ?_)
        refine wm_last (t := 1) E rfl h dHi_add_50 (fun m50 h => ?_)
        refine wm_aload_n E dHi_add_51 rfl (j := 0) rfl ?_
        refine wm_gR E fd_Hi_9 h dHi_add_52 (fun x52 h => ?_)
        refine wm_iload E dHi_add_55 (j := 3) rfl ?_
        refine wm_aload_n E dHi_add_57 rfl (j := 0) rfl ?_
        refine wm_gR E fd_Hi_9 h dHi_add_58 (fun x58 h => ?_)
        refine wm_iload E dHi_add_61 (j := 3) rfl ?_
        refine wm_iconst (x := 1) E dHi_add_63 (by decide) ?_
        refine wm_isub E dHi_add_64 ?_
        refine wm_iald (t := 0) E rfl h dHi_add_65 (fun x65 h => ?_)
        refine wm_iast (t := 0) E rfl h dHi_add_66 (fun m66 h => ?_)
        refine wm_iinc (lv' := [(4, vI (v4 + (-1))), (0, vR v0), (1, vI v1), (2, vL v2)]) (d := (-1)) E dHi_add_67 (by decide) (j := 3) rfl (by decide) rfl ?_
        refine wm_goto (tgt := 16) E dHi_add_70 (by decide) ?_
        refine wm_pick (lv' := [(0, vR v0), (1, vI v1), (2, vL v2), (4, vI (v4 + (-1)))]) [1, 2, 3, 0] rfl ?_
        exact ih v0 v1 v2 (v4 + (-1)) m66 h
def S_Hi_add (v0 : Option Nat) (v1 : Int32) (v2 : Int64) (μ : Mem) : Option (Unit × Mem) := b1 (gI μ v0 4 2) (fun x1 => if x1 < 30 then b1 (gI μ v0 4 2) (fun x11 => B_Hi_add_16 fu v0 v1 v2 x11 μ) else some ((), μ))
set_option maxHeartbeats 4000000 in
set_option maxRecDepth 100000 in
theorem C_Hi_add (l : Launch) (G : GG) (v0 : Option Nat) (v1 : Int32) (v2 : Int64) (μ μ' : Mem) (r : Unit) (h : S_Hi_add v0 v1 v2 μ = some (r, μ')) : CT l G y_Hi_add prog_5_method_3_code 5 none 0 0 0 0 μ [vR v0, vI v1, vL v2] none μ' := by
  refine wm_met (lv := [(0, vR v0), (1, vI v1), (2, vL v2)]) (by decide +kernel) (Nat.le_of_ble_eq_true rfl) rfl (fun X E hQ hR hI => ?_)
  have h : (b1 (gI μ v0 4 2) (fun x1 => if x1 < 30 then b1 (gI μ v0 4 2) (fun x11 => B_Hi_add_16 fu v0 v1 v2 x11 μ) else some ((), μ))) = some (r, μ') := h
  refine wm_aload_n E dHi_add_0 rfl (j := 0) rfl ?_
  refine wm_gI E fd_Hi_19 h dHi_add_1 (fun x1 h => ?_)
  refine wm_bipush (x := 30) E dHi_add_4 (by decide) ?_
  refine wm_icmp_lt (tgt := 10) E dHi_add_6 (by decide) (fun c6 => ?_) (fun c6 => ?_)
  · have h := (if_pos c6).symm.trans h
    refine wm_aload_n E dHi_add_10 rfl (j := 0) rfl ?_
    refine wm_gI E fd_Hi_19 h dHi_add_11 (fun x11 h => ?_)
    refine wm_istore (lv' := [(4, vI x11), (0, vR v0), (1, vI v1), (2, vL v2)]) E dHi_add_14 (by decide) rfl ?_
    refine wm_pick (lv' := [(0, vR v0), (1, vI v1), (2, vL v2), (4, vI x11)]) [1, 2, 3, 0] rfl ?_
    exact w_Hi_add_16 E hQ hR hI fu v0 v1 v2 x11 μ h
  · have h := (if_neg c6).symm.trans h
    exact wm_vret E hQ rfl (rtM h) (by decide) (by decide) dHi_add_9
def B_P_find_16   (μ : Mem) : Option ((Nat ⊕ Int32) × Mem) := some (.inl 0, μ)
set_option maxHeartbeats 4000000 in
set_option maxRecDepth 100000 in
theorem w_P_find_16 {X : CX} (E : EV X prog_1_method_12_code 7 "PlaceFinder" (some .int)) {μ0 μ' : Mem} {r : (Nat ⊕ Int32)} (hQ : RQ2 X 1 6 μ0 (cvI r) μ') (hR : xR X = { frames := 10, cells := 1, slots := 6, locals := 230 }) (hI : X.2.2.2.2.2.2.2.2.2.2.2.1.name = "find")   (μ : Mem) (h : B_P_find_16   μ = some (r, μ')) : WM X 7 16 [] [] 0 0 μ := by
  have h : (some (.inl 0, μ)) = some (r, μ') := h
  obtain ⟨μs, hX⟩ := rqXI hQ h
  exact wm_throw (ln := 2) (names := exU) (cls := "java/lang/IllegalArgumentException") E tf_P_91_211 hX ⟨(by rw [hR]; decide), by decide⟩ ⟨(by rw [hR]; decide), by decide⟩ (by rw [hR]; decide) (by rw [hR]; decide) (Nat.le_of_ble_eq_true rfl) dP_find_16 dP_find_19 (Or.inl ⟨rfl, dP_find_20⟩) dP_find_22 dP_find_25
def B_P_find_111 (k47 : Option Nat → Int32 → Int32 → Option Nat → Option Nat → Int32 → Mem → Option ((Nat ⊕ Int32) × Mem)) (v0 : Option Nat) (v1 : Int32) (v2 : Int32) (v3 : Option Nat) (v4 : Option Nat) (v5 : Int32) (μ : Mem) : Option ((Nat ⊕ Int32) × Mem) := k47 v0 v1 v2 v3 v4 (v5 + 1) μ
set_option maxHeartbeats 4000000 in
set_option maxRecDepth 100000 in
theorem w_P_find_111 {X : CX} (E : EV X prog_1_method_12_code 7 "PlaceFinder" (some .int)) {μ0 μ' : Mem} {r : (Nat ⊕ Int32)} (hQ : RQ2 X 1 6 μ0 (cvI r) μ') (hR : xR X = { frames := 10, cells := 1, slots := 6, locals := 230 }) (hI : X.2.2.2.2.2.2.2.2.2.2.2.1.name = "find") (k47 : Option Nat → Int32 → Int32 → Option Nat → Option Nat → Int32 → Mem → Option ((Nat ⊕ Int32) × Mem)) (hk47 : ∀ (v0 : Option Nat) (v1 : Int32) (v2 : Int32) (v3 : Option Nat) (v4 : Option Nat) (v5 : Int32) (μ : Mem), k47 v0 v1 v2 v3 v4 v5 μ = some (r, μ') → WM X 7 47 [(0, vR v0), (1, vI v1), (2, vI v2), (3, vR v3), (4, vR v4), (5, vI v5)] [] 0 0 μ) (v0 : Option Nat) (v1 : Int32) (v2 : Int32) (v3 : Option Nat) (v4 : Option Nat) (v5 : Int32) (μ : Mem) (h : B_P_find_111 k47 v0 v1 v2 v3 v4 v5 μ = some (r, μ')) : WM X 7 111 [(0, vR v0), (1, vI v1), (2, vI v2), (3, vR v3), (4, vR v4), (5, vI v5)] [] 0 0 μ := by
  have h : (k47 v0 v1 v2 v3 v4 (v5 + 1) μ) = some (r, μ') := h
  refine wm_iinc (lv' := [(5, vI (v5 + 1)), (0, vR v0), (1, vI v1), (2, vI v2), (3, vR v3), (4, vR v4)]) (d := 1) E dP_find_111 (by decide) (j := 5) rfl (by decide) rfl ?_
  refine wm_goto (tgt := 47) E dP_find_114 (by decide) ?_
  refine wm_pick (lv' := [(0, vR v0), (1, vI v1), (2, vI v2), (3, vR v3), (4, vR v4), (5, vI (v5 + 1))]) [1, 2, 3, 4, 5, 0] rfl ?_
  exact hk47 v0 v1 v2 v3 v4 (v5 + 1) μ h
def B_P_find_47  : Nat → Option Nat → Int32 → Int32 → Option Nat → Option Nat → Int32 → Mem → Option ((Nat ⊕ Int32) × Mem)
  | 0, _, _, _, _, _, _, _ => none
  | n + 1, v0, v1, v2, v3, v4, v5, μ => b1 (gR μ v0 11 0) (fun x50 => b1 (rc μ x50 0) (fun _ => b1 (S_Al_size x50 μ) (fun x53 => if x53 ≤ v5 then b1 (gR μ v0 11 9) (fun x118 => b1 (gI μ x118 4 2) (fun x121 => some (.inr x121, μ))) else b1 (gR μ v0 11 0) (fun x60 => b1 (rc μ x60 0) (fun _ => b1 (S_Al_get x60 v5 μ) (fun x65 => b1 (cK μ x65 7) (fun _ => b1 (gR μ v0 11 7) (fun x77 => b1 (gR μ v0 11 4) (fun x81 => b1 (rc μ v0 11) (fun _ => b2 (S_P_meets v0 x65 x77 x81 v1 μ) (fun x85 m85 => if x85 = 0 then B_P_find_111 (fun v0 v1 v2 v3 v4 v5 μ => B_P_find_47 n v0 v1 v2 v3 v4 v5 μ) v0 v1 v2 v3 v4 v5 m85 else b1 (gR m85 v0 11 9) (fun x92 => b1 (rc m85 v0 11) (fun _ => b2 (S_P_orderKey v0 x65 v2 v3 v4 v1 m85) (fun x105 m105 => b1 (rc m105 x92 4) (fun _ => b2 (S_Hi_add x92 v5 x105 m105) (fun x108 m108 => B_P_find_111 (fun v0 v1 v2 v3 v4 v5 μ => B_P_find_47 n v0 v1 v2 v3 v4 v5 μ) v0 v1 v2 v3 v4 v5 m108))))))))))))))))
set_option maxHeartbeats 4000000 in
set_option maxRecDepth 100000 in
theorem w_P_find_47 {X : CX} (E : EV X prog_1_method_12_code 7 "PlaceFinder" (some .int)) {μ0 μ' : Mem} {r : (Nat ⊕ Int32)} (hQ : RQ2 X 1 6 μ0 (cvI r) μ') (hR : xR X = { frames := 10, cells := 1, slots := 6, locals := 230 }) (hI : X.2.2.2.2.2.2.2.2.2.2.2.1.name = "find")  (n : Nat) : ∀ (v0 : Option Nat) (v1 : Int32) (v2 : Int32) (v3 : Option Nat) (v4 : Option Nat) (v5 : Int32) (μ : Mem) (h : B_P_find_47  n v0 v1 v2 v3 v4 v5 μ = some (r, μ')), WM X 7 47 [(0, vR v0), (1, vI v1), (2, vI v2), (3, vR v3), (4, vR v4), (5, vI v5)] [] 0 0 μ := by
  induction n with
  | zero => intro v0 v1 v2 v3 v4 v5 μ h; cases h
  | succ n ih =>
    intro v0 v1 v2 v3 v4 v5 μ h
    have h : (b1 (gR μ v0 11 0) (fun x50 => b1 (rc μ x50 0) (fun _ => b1 (S_Al_size x50 μ) (fun x53 => if x53 ≤ v5 then b1 (gR μ v0 11 9) (fun x118 => b1 (gI μ x118 4 2) (fun x121 => some (.inr x121, μ))) else b1 (gR μ v0 11 0) (fun x60 => b1 (rc μ x60 0) (fun _ => b1 (S_Al_get x60 v5 μ) (fun x65 => b1 (cK μ x65 7) (fun _ => b1 (gR μ v0 11 7) (fun x77 => b1 (gR μ v0 11 4) (fun x81 => b1 (rc μ v0 11) (fun _ => b2 (S_P_meets v0 x65 x77 x81 v1 μ) (fun x85 m85 => if x85 = 0 then B_P_find_111 (fun v0 v1 v2 v3 v4 v5 μ => B_P_find_47 n v0 v1 v2 v3 v4 v5 μ) v0 v1 v2 v3 v4 v5 m85 else b1 (gR m85 v0 11 9) (fun x92 => b1 (rc m85 v0 11) (fun _ => b2 (S_P_orderKey v0 x65 v2 v3 v4 v1 m85) (fun x105 m105 => b1 (rc m105 x92 4) (fun _ => b2 (S_Hi_add x92 v5 x105 m105) (fun x108 m108 => B_P_find_111 (fun v0 v1 v2 v3 v4 v5 μ => B_P_find_47 n v0 v1 v2 v3 v4 v5 μ) v0 v1 v2 v3 v4 v5 m108))))))))))))))))) = some (r, μ') := h
    refine wm_iload E dP_find_47 (j := 5) rfl ?_
    refine wm_aload_n E dP_find_49 rfl (j := 0) rfl ?_
    refine wm_gR E fd_P_10 h dP_find_50 (fun x50 h => ?_)
    obtain ⟨u53, hr53, h⟩ := b1S h
    obtain ⟨x53, hc53, h⟩ := b1S h
    refine wm_cV (ci := 0) (As := []) (st := [vI v5]) E lk_P_98 rfl im_Al_size sl_Al_size hr53 (C_Al_size (xl X) X.1 x50 μ _ hc53) rfl rfl (by rw [hR]; decide) (by rw [hR]; decide) (Nat.le_of_ble_eq_true rfl) dP_find_53 ?_
    refine wm_icmp_ge (tgt := 117) E dP_find_56 (by decide) (fun c56 => ?_) (fun c56 => ?_)
    · have h := (if_pos c56).symm.trans h
      refine wm_aload_n E dP_find_117 rfl (j := 0) rfl ?_
      refine wm_gR E fd_P_55 h dP_find_118 (fun x118 h => ?_)
      refine wm_gI E fd_P_238 h dP_find_121 (fun x121 h => ?_)
      exact wm_iret (rt := .int) E (rqI hQ h) rfl rfl (by decide) (by decide) dP_find_124
    · have h := (if_neg c56).symm.trans h
      refine wm_aload_n E dP_find_59 rfl (j := 0) rfl ?_
      refine wm_gR E fd_P_10 h dP_find_60 (fun x60 h => ?_)
      refine wm_iload E dP_find_63 (j := 5) rfl ?_
      obtain ⟨u65, hr65, h⟩ := b1S h
      obtain ⟨x65, hc65, h⟩ := b1S h
      refine wm_cV (ci := 0) (As := [vI v5]) (st := []) E lk_P_223 rfl im_Al_get sl_Al_get hr65 (C_Al_get (xl X) X.1 x60 v5 μ _ hc65) rfl rfl (by rw [hR]; decide) (by rw [hR]; decide) (Nat.le_of_ble_eq_true rfl) dP_find_65 ?_
      refine wm_ckc (ci := 7) E rfl cl_P_107 h dP_find_68 (fun h => ?_)
      refine wm_astore (lv' := [(6, vR x65), (0, vR v0), (1, vI v1), (2, vI v2), (3, vR v3), (4, vR v4), (5, vI v5)]) E dP_find_71 (by decide) rfl ?_
      refine wm_aload_n E dP_find_73 rfl (j := 1) rfl ?_
      refine wm_aload E dP_find_74 (j := 0) rfl ?_
      refine wm_aload_n E dP_find_76 rfl (j := 1) rfl ?_
      refine wm_gR E fd_P_43 h dP_find_77 (fun x77 h => ?_)
      refine wm_aload_n E dP_find_80 rfl (j := 1) rfl ?_
      refine wm_gR E fd_P_32 h dP_find_81 (fun x81 h => ?_)
      refine wm_iload_n E dP_find_84 rfl (j := 2) rfl ?_
      obtain ⟨u85, hr85, h⟩ := b1S h
      obtain ⟨x85, m85, hc85, h⟩ := b2S h
      refine wm_cV (ci := 11) (As := [vR x65, vR x77, vR x81, vI v1]) (st := []) E lk_P_227 rfl im_P_meets sl_P_meets hr85 (C_P_meets (xl X) X.1 v0 x65 x77 x81 v1 μ _ _ hc85) rfl rfl (by rw [hR]; decide) (by rw [hR]; decide) (Nat.le_of_ble_eq_true rfl) dP_find_85 ?_
      refine wm_if_eq (tgt := 111) E dP_find_88 (by decide) (fun c88 => ?_) (fun c88 => ?_)
      · have h := (if_pos c88).symm.trans h
        refine wm_pick (lv' := [(0, vR v0), (1, vI v1), (2, vI v2), (3, vR v3), (4, vR v4), (5, vI v5)]) [1, 2, 3, 4, 5, 6] rfl ?_
        exact w_P_find_111 E hQ hR hI (fun v0 v1 v2 v3 v4 v5 μ => B_P_find_47 n v0 v1 v2 v3 v4 v5 μ) ih v0 v1 v2 v3 v4 v5 m85 h
      · have h := (if_neg c88).symm.trans h
        refine wm_aload_n E dP_find_91 rfl (j := 1) rfl ?_
        refine wm_gR E fd_P_55 h dP_find_92 (fun x92 h => ?_)
        refine wm_iload E dP_find_95 (j := 6) rfl ?_
        refine wm_aload_n E dP_find_97 rfl (j := 1) rfl ?_
        refine wm_aload E dP_find_98 (j := 0) rfl ?_
        refine wm_iload_n E dP_find_100 rfl (j := 3) rfl ?_
        refine wm_aload_n E dP_find_101 rfl (j := 4) rfl ?_
        refine wm_aload E dP_find_102 (j := 5) rfl ?_
        refine wm_iload_n E dP_find_104 rfl (j := 2) rfl ?_
        obtain ⟨u105, hr105, h⟩ := b1S h
        obtain ⟨x105, m105, hc105, h⟩ := b2S h
        refine wm_cV (ci := 11) (As := [vR x65, vI v2, vR v3, vR v4, vI v1]) (st := [vI v5, vR x92]) E lk_P_231 rfl im_P_orderKey sl_P_orderKey hr105 (C_P_orderKey (xl X) X.1 v0 x65 v2 v3 v4 v1 m85 _ _ hc105) rfl rfl (by rw [hR]; decide) (by rw [hR]; decide) (Nat.le_of_ble_eq_true rfl) dP_find_105 ?_
        obtain ⟨u108, hr108, h⟩ := b1S h
        obtain ⟨x108, m108, hc108, h⟩ := b2S h
        refine wm_cV (ci := 4) (As := [vI v5, vL x105]) (st := []) E lk_P_235 rfl im_Hi_add sl_Hi_add hr108 (C_Hi_add (xl X) X.1 x92 v5 x105 m105 _ _ hc108) rfl rfl (by rw [hR]; decide) (by rw [hR]; decide) (Nat.le_of_ble_eq_true rfl) dP_find_108 ?_
        refine wm_pick (lv' := [(0, vR v0), (1, vI v1), (2, vI v2), (3, vR v3), (4, vR v4), (5, vI v5)]) [1, 2, 3, 4, 5, 6] rfl ?_
        exact w_P_find_111 E hQ hR hI (fun v0 v1 v2 v3 v4 v5 μ => B_P_find_47 n v0 v1 v2 v3 v4 v5 μ) ih v0 v1 v2 v3 v4 v5 m108 h
def S_P_find (v0 : Option Nat) (v1 : Int32) (v2 : Int32) (μ : Mem) : Option ((Nat ⊕ Int32) × Mem) := b1 (S_P_isDay v1 μ) (fun x1 => if x1 = 0 then B_P_find_16 μ else if v2 < 0 then B_P_find_16 μ else if v2 ≤ 3 then b1 (rc μ v0 11) (fun _ => b1 (S_P_firstNameCondition v0 μ) (fun x27 => b1 (rc μ v0 11) (fun _ => b1 (S_P_firstAround v0 μ) (fun x32 => b1 (gR μ v0 11 9) (fun x38 => b1 (rc μ x38 4) (fun _ => b2 (S_Hi_empty x38 μ) (fun x41 m41 => B_P_find_47 fu v0 v1 v2 x27 x32 0 m41))))))) else B_P_find_16 μ)
set_option maxHeartbeats 4000000 in
set_option maxRecDepth 100000 in
theorem w_P_find_e {X : CX} (E : EV X prog_1_method_12_code 7 "PlaceFinder" (some .int)) {μ0 μ' : Mem} {r : (Nat ⊕ Int32)} (hQ : RQ2 X 1 6 μ0 (cvI r) μ') (hR : xR X = { frames := 10, cells := 1, slots := 6, locals := 230 }) (hI : X.2.2.2.2.2.2.2.2.2.2.2.1.name = "find") (v0 : Option Nat) (v1 : Int32) (v2 : Int32) (μ : Mem) (h : S_P_find v0 v1 v2 μ = some (r, μ')) : WM X 7 0 [(0, vR v0), (1, vI v1), (2, vI v2)] [] 0 0 μ := by
  have h : (b1 (S_P_isDay v1 μ) (fun x1 => if x1 = 0 then B_P_find_16 μ else if v2 < 0 then B_P_find_16 μ else if v2 ≤ 3 then b1 (rc μ v0 11) (fun _ => b1 (S_P_firstNameCondition v0 μ) (fun x27 => b1 (rc μ v0 11) (fun _ => b1 (S_P_firstAround v0 μ) (fun x32 => b1 (gR μ v0 11 9) (fun x38 => b1 (rc μ x38 4) (fun _ => b2 (S_Hi_empty x38 μ) (fun x41 m41 => B_P_find_47 fu v0 v1 v2 x27 x32 0 m41))))))) else B_P_find_16 μ)) = some (r, μ') := h
  refine wm_iload_n E dP_find_0 rfl (j := 1) rfl ?_
  obtain ⟨x1, hc1, h⟩ := b1S h
  refine wm_cS (As := [vI v1]) (st := []) E lk_P_128 sc_P_isDay (C_P_isDay (xl X) X.1 v1 μ _ hc1) rfl rfl (by rw [hR]; decide) (by rw [hR]; decide) (Nat.le_of_ble_eq_true rfl) dP_find_1 ?_
  refine wm_if_eq (tgt := 16) E dP_find_4 (by decide) (fun c4 => ?_) (fun c4 => ?_)
  · have h := (if_pos c4).symm.trans h
    refine wm_pick (lv' := []) [] rfl ?_
    exact w_P_find_16 E hQ hR hI μ h
  · have h := (if_neg c4).symm.trans h
    refine wm_iload_n E dP_find_7 rfl (j := 2) rfl ?_
    refine wm_if_lt (tgt := 16) E dP_find_8 (by decide) (fun c8 => ?_) (fun c8 => ?_)
    · have h := (if_pos c8).symm.trans h
      refine wm_pick (lv' := []) [] rfl ?_
      exact w_P_find_16 E hQ hR hI μ h
    · have h := (if_neg c8).symm.trans h
      refine wm_iload_n E dP_find_11 rfl (j := 2) rfl ?_
      refine wm_iconst (x := 3) E dP_find_12 (by decide) ?_
      refine wm_icmp_le (tgt := 26) E dP_find_13 (by decide) (fun c13 => ?_) (fun c13 => ?_)
      · have h := (if_pos c13).symm.trans h
        refine wm_aload_n E dP_find_26 rfl (j := 0) rfl ?_
        obtain ⟨u27, hr27, h⟩ := b1S h
        obtain ⟨x27, hc27, h⟩ := b1S h
        refine wm_cV (ci := 11) (As := []) (st := []) E lk_P_213 rfl im_P_firstNameCondition sl_P_firstNameCondition hr27 (C_P_firstNameCondition (xl X) X.1 v0 μ _ hc27) rfl rfl (by rw [hR]; decide) (by rw [hR]; decide) (Nat.le_of_ble_eq_true rfl) dP_find_27 ?_
        refine wm_astore_n (lv' := [(3, vR x27), (0, vR v0), (1, vI v1), (2, vI v2)]) E dP_find_30 rfl (by decide) rfl ?_
        refine wm_aload_n E dP_find_31 rfl (j := 1) rfl ?_
        obtain ⟨u32, hr32, h⟩ := b1S h
        obtain ⟨x32, hc32, h⟩ := b1S h
        refine wm_cV (ci := 11) (As := []) (st := []) E lk_P_217 rfl im_P_firstAround sl_P_firstAround hr32 (C_P_firstAround (xl X) X.1 v0 μ _ hc32) rfl rfl (by rw [hR]; decide) (by rw [hR]; decide) (Nat.le_of_ble_eq_true rfl) dP_find_32 ?_
        refine wm_astore (lv' := [(4, vR x32), (3, vR x27), (0, vR v0), (1, vI v1), (2, vI v2)]) E dP_find_35 (by decide) rfl ?_
        refine wm_aload_n E dP_find_37 rfl (j := 2) rfl ?_
        refine wm_gR E fd_P_55 h dP_find_38 (fun x38 h => ?_)
        obtain ⟨u41, hr41, h⟩ := b1S h
        obtain ⟨x41, m41, hc41, h⟩ := b2S h
        refine wm_cV (ci := 4) (As := []) (st := []) E lk_P_220 rfl im_Hi_empty sl_Hi_empty hr41 (C_Hi_empty (xl X) X.1 x38 μ _ _ hc41) rfl rfl (by rw [hR]; decide) (by rw [hR]; decide) (Nat.le_of_ble_eq_true rfl) dP_find_41 ?_
        refine wm_iconst (x := 0) E dP_find_44 (by decide) ?_
        refine wm_istore (lv' := [(5, vI 0), (4, vR x32), (3, vR x27), (0, vR v0), (1, vI v1), (2, vI v2)]) E dP_find_45 (by decide) rfl ?_
        refine wm_pick (lv' := [(0, vR v0), (1, vI v1), (2, vI v2), (3, vR x27), (4, vR x32), (5, vI 0)]) [3, 4, 5, 2, 1, 0] rfl ?_
        exact w_P_find_47 E hQ hR hI fu v0 v1 v2 x27 x32 0 m41 h
      · have h := (if_neg c13).symm.trans h
        refine wm_pick (lv' := []) [] rfl ?_
        exact w_P_find_16 E hQ hR hI μ h
theorem C_P_find (l : Launch) (G : GG) (v0 : Option Nat) (v1 : Int32) (v2 : Int32) (μ μ' : Mem) (r : Int32) (h : S_P_find v0 v1 v2 μ = some (.inr r, μ')) : CT l G y_P_find prog_1_method_12_code 7 (some .int) 10 1 6 230 μ [vR v0, vI v1, vI v2] (some (vI r)) μ' := by
  refine wm_met (lv := [(0, vR v0), (1, vI v1), (2, vI v2)]) (by decide +kernel) (Nat.le_of_ble_eq_true rfl) rfl (fun X E hQ hR hI => ?_)
  exact w_P_find_e (r := .inr r) E hQ hR hI v0 v1 v2 μ h
theorem X_P_find (l : Launch) (hl : LF l) (G : GG) (v0 : Option Nat) (v1 : Int32) (v2 : Int32) (μ μ' : Mem) (k : Nat) (h : S_P_find v0 v1 v2 (m_up μ) = some (.inl k, μ')) : CZ l G y_P_find prog_1_method_12_code 7 (some .int) 10 1 6 230 μ [vR v0, vI v1, vI v2] (exN k) := by
  refine wm_metX hl (lv := [(0, vR v0), (1, vI v1), (2, vI v2)]) (by decide +kernel) (Nat.le_of_ble_eq_true rfl) rfl (fun X E hX hR hI => ?_)
  exact w_P_find_e (μ0 := μ) (r := .inl k) E ⟨μ, hX⟩ hR hI v0 v1 v2 (m_up μ) h
def B_Pl_isThere_21 (μ : Mem)   (s0 : Int32) : Option Int32 := gd (¬ okZ s0 = true) (some (s0))
set_option maxHeartbeats 4000000 in
set_option maxRecDepth 100000 in
theorem w_Pl_isThere_21 {X : CX} (E : EV X prog_8_method_6_code 2 "PlaceFinder$Place" (some .boolean)) {μ0 μ : Mem} {r : Int32} (hQ : RQ X 0 0 μ0 (some (vI r)) μ) (hR : xR X = { frames := 4, cells := 0, slots := 0, locals := 87 }) (hI : X.2.2.2.2.2.2.2.2.2.2.2.1.name = "isThere")  (s0 : Int32) (h : B_Pl_isThere_21 μ  s0 = some r) : WM X 2 21 [] [vI s0] 0 0 μ := by
  have h : (gd (¬ okZ s0 = true) (some (s0))) = some r := h
  obtain ⟨hz21, h⟩ := gdS h
  exact wm_zret (rt := .boolean) E hQ (rqI1 h) rfl (okZN hz21) (by decide) (by decide) dPl_isThere_21
def B_Pl_isThere_20 (μ : Mem)    : Option Int32 := B_Pl_isThere_21 μ 0
set_option maxHeartbeats 4000000 in
set_option maxRecDepth 100000 in
theorem w_Pl_isThere_20 {X : CX} (E : EV X prog_8_method_6_code 2 "PlaceFinder$Place" (some .boolean)) {μ0 μ : Mem} {r : Int32} (hQ : RQ X 0 0 μ0 (some (vI r)) μ) (hR : xR X = { frames := 4, cells := 0, slots := 0, locals := 87 }) (hI : X.2.2.2.2.2.2.2.2.2.2.2.1.name = "isThere")   (h : B_Pl_isThere_20 μ   = some r) : WM X 2 20 [] [] 0 0 μ := by
  have h : (B_Pl_isThere_21 μ 0) = some r := h
  refine wm_iconst (x := 0) E dPl_isThere_20 (by decide) ?_
  refine wm_pick (lv' := []) [] rfl ?_
  exact w_Pl_isThere_21 E hQ hR hI 0 h
def S_Pl_isThere (v0 : Option Nat) (v1 : Int32) (μ : Mem) : Option Int32 := b1 (rc μ v0 7) (fun _ => b1 (S_Pl_shapeOn v0 v1 μ) (fun x2 => if x2 = none then B_Pl_isThere_20 μ  else b1 (rc μ v0 7) (fun _ => b1 (S_Pl_isRemovedOn v0 v1 μ) (fun x10 => if x10 = 0 then B_Pl_isThere_21 μ 1 else B_Pl_isThere_20 μ ))))
set_option maxHeartbeats 4000000 in
set_option maxRecDepth 100000 in
theorem C_Pl_isThere (l : Launch) (G : GG) (v0 : Option Nat) (v1 : Int32) (μ : Mem) (r : Int32) (h : S_Pl_isThere v0 v1 μ = some r) : CT l G y_Pl_isThere prog_8_method_6_code 2 (some .boolean) 4 0 0 87 μ [vR v0, vI v1] (some (vI r)) μ := by
  refine wm_met (lv := [(0, vR v0), (1, vI v1)]) (by decide +kernel) (Nat.le_of_ble_eq_true rfl) rfl (fun X E hQ hR hI => ?_)
  have h : (b1 (rc μ v0 7) (fun _ => b1 (S_Pl_shapeOn v0 v1 μ) (fun x2 => if x2 = none then B_Pl_isThere_20 μ  else b1 (rc μ v0 7) (fun _ => b1 (S_Pl_isRemovedOn v0 v1 μ) (fun x10 => if x10 = 0 then B_Pl_isThere_21 μ 1 else B_Pl_isThere_20 μ ))))) = some r := h
  refine wm_aload_n E dPl_isThere_0 rfl (j := 0) rfl ?_
  refine wm_iload_n E dPl_isThere_1 rfl (j := 1) rfl ?_
  obtain ⟨u2, hr2, h⟩ := b1S h
  obtain ⟨x2, hc2, h⟩ := b1S h
  refine wm_cV (ci := 7) (As := [vI v1]) (st := []) E lk_Pl_52 rfl im_Pl_shapeOn sl_Pl_shapeOn hr2 (C_Pl_shapeOn (xl X) X.1 v0 v1 μ _ hc2) rfl rfl (by rw [hR]; decide) (by rw [hR]; decide) (Nat.le_of_ble_eq_true rfl) dPl_isThere_2 ?_
  refine wm_ifnull (tgt := 20) E dPl_isThere_5 (by decide) (fun c5 => ?_) (fun c5 => ?_)
  · have h := (if_pos c5).symm.trans h
    refine wm_pick (lv' := []) [] rfl ?_
    exact w_Pl_isThere_20 E hQ hR hI  h
  · have h := (if_neg c5).symm.trans h
    refine wm_aload_n E dPl_isThere_8 rfl (j := 0) rfl ?_
    refine wm_iload_n E dPl_isThere_9 rfl (j := 1) rfl ?_
    obtain ⟨u10, hr10, h⟩ := b1S h
    obtain ⟨x10, hc10, h⟩ := b1S h
    refine wm_cV (ci := 7) (As := [vI v1]) (st := []) E lk_Pl_56 rfl im_Pl_isRemovedOn sl_Pl_isRemovedOn hr10 (C_Pl_isRemovedOn (xl X) X.1 v0 v1 μ _ hc10) rfl rfl (by rw [hR]; decide) (by rw [hR]; decide) (Nat.le_of_ble_eq_true rfl) dPl_isThere_10 ?_
    refine wm_if_ne (tgt := 20) E dPl_isThere_13 (by decide) (fun c13 => ?_) (fun c13 => ?_)
    · have h := (if_neg c13).symm.trans h
      refine wm_pick (lv' := []) [] rfl ?_
      exact w_Pl_isThere_20 E hQ hR hI  h
    · have h := (if_pos c13).symm.trans h
      refine wm_iconst (x := 1) E dPl_isThere_16 (by decide) ?_
      refine wm_goto (tgt := 21) E dPl_isThere_17 (by decide) ?_
      refine wm_pick (lv' := []) [] rfl ?_
      exact w_Pl_isThere_21 E hQ hR hI 1 h
def S_Hi_keepFirst (v0 : Option Nat) (v1 : Int32) (μ : Mem) : Option (Unit × Mem) := b1 (gI μ v0 4 2) (fun x2 => b1 (S_Ma_min x2 v1 μ) (fun x6 => b1 (pV μ v0 4 2 (vI x6)) (fun m9 => some ((), m9))))
set_option maxHeartbeats 4000000 in
set_option maxRecDepth 100000 in
theorem C_Hi_keepFirst (l : Launch) (G : GG) (v0 : Option Nat) (v1 : Int32) (μ μ' : Mem) (r : Unit) (h : S_Hi_keepFirst v0 v1 μ = some (r, μ')) : CT l G y_Hi_keepFirst prog_5_method_4_code 2 none 1 0 0 21 μ [vR v0, vI v1] none μ' := by
  refine wm_met (lv := [(0, vR v0), (1, vI v1)]) (by decide +kernel) (Nat.le_of_ble_eq_true rfl) rfl (fun X E hQ hR hI => ?_)
  have h : (b1 (gI μ v0 4 2) (fun x2 => b1 (S_Ma_min x2 v1 μ) (fun x6 => b1 (pV μ v0 4 2 (vI x6)) (fun m9 => some ((), m9))))) = some (r, μ') := h
  refine wm_aload_n E dHi_keepFirst_0 rfl (j := 0) rfl ?_
  refine wm_aload_n E dHi_keepFirst_1 rfl (j := 0) rfl ?_
  refine wm_gI E fd_Hi_19 h dHi_keepFirst_2 (fun x2 h => ?_)
  refine wm_iload_n E dHi_keepFirst_5 rfl (j := 1) rfl ?_
  obtain ⟨x6, hc6, h⟩ := b1S h
  refine wm_cS (As := [vI x2, vI v1]) (st := [vR v0]) E lk_Hi_23 sc_Ma_min (C_Ma_min (xl X) X.1 x2 v1 μ _ hc6) rfl rfl (by rw [hR]; decide) (by rw [hR]; decide) (Nat.le_of_ble_eq_true rfl) dHi_keepFirst_6 ?_
  refine wm_pI E fp_Hi_19 (fun q => by cases q) h dHi_keepFirst_9 (fun m9 h => ?_)
  exact wm_vret E hQ rfl (rtM h) (by decide) (by decide) dHi_keepFirst_12
def B_P_near_53   (μ : Mem) : Option ((Nat ⊕ Int32) × Mem) := some (.inl 0, μ)
set_option maxHeartbeats 4000000 in
set_option maxRecDepth 100000 in
theorem w_P_near_53 {X : CX} (E : EV X prog_1_method_13_code 9 "PlaceFinder" (some .int)) {μ0 μ' : Mem} {r : (Nat ⊕ Int32)} (hQ : RQ2 X 1 6 μ0 (cvI r) μ') (hR : xR X = { frames := 6, cells := 1, slots := 6, locals := 111 }) (hI : X.2.2.2.2.2.2.2.2.2.2.2.1.name = "near")   (μ : Mem) (h : B_P_near_53   μ = some (r, μ')) : WM X 9 53 [] [] 0 0 μ := by
  have h : (some (.inl 0, μ)) = some (r, μ') := h
  obtain ⟨μs, hX⟩ := rqXI hQ h
  exact wm_throw (ln := 2) (names := exU) (cls := "java/lang/IllegalArgumentException") E tf_P_91_241 hX ⟨(by rw [hR]; decide), by decide⟩ ⟨(by rw [hR]; decide), by decide⟩ (by rw [hR]; decide) (by rw [hR]; decide) (Nat.le_of_ble_eq_true rfl) dP_near_53 dP_near_56 (Or.inl ⟨rfl, dP_near_57⟩) dP_near_59 dP_near_62
def B_P_near_144 (k73 : Option Nat → Int32 → Int32 → Int32 → Int32 → Int32 → Int32 → Mem → Option ((Nat ⊕ Int32) × Mem)) (v0 : Option Nat) (v1 : Int32) (v2 : Int32) (v3 : Int32) (v4 : Int32) (v5 : Int32) (v7 : Int32) (μ : Mem) : Option ((Nat ⊕ Int32) × Mem) := k73 v0 v1 v2 v3 v4 v5 (v7 + 1) μ
set_option maxHeartbeats 4000000 in
set_option maxRecDepth 100000 in
theorem w_P_near_144 {X : CX} (E : EV X prog_1_method_13_code 9 "PlaceFinder" (some .int)) {μ0 μ' : Mem} {r : (Nat ⊕ Int32)} (hQ : RQ2 X 1 6 μ0 (cvI r) μ') (hR : xR X = { frames := 6, cells := 1, slots := 6, locals := 111 }) (hI : X.2.2.2.2.2.2.2.2.2.2.2.1.name = "near") (k73 : Option Nat → Int32 → Int32 → Int32 → Int32 → Int32 → Int32 → Mem → Option ((Nat ⊕ Int32) × Mem)) (hk73 : ∀ (v0 : Option Nat) (v1 : Int32) (v2 : Int32) (v3 : Int32) (v4 : Int32) (v5 : Int32) (v7 : Int32) (μ : Mem), k73 v0 v1 v2 v3 v4 v5 v7 μ = some (r, μ') → WM X 9 73 [(0, vR v0), (1, vI v1), (2, vI v2), (3, vI v3), (4, vI v4), (5, vI v5), (7, vI v7)] [] 0 0 μ) (v0 : Option Nat) (v1 : Int32) (v2 : Int32) (v3 : Int32) (v4 : Int32) (v5 : Int32) (v7 : Int32) (μ : Mem) (h : B_P_near_144 k73 v0 v1 v2 v3 v4 v5 v7 μ = some (r, μ')) : WM X 9 144 [(0, vR v0), (1, vI v1), (2, vI v2), (3, vI v3), (4, vI v4), (5, vI v5), (7, vI v7)] [] 0 0 μ := by
  have h : (k73 v0 v1 v2 v3 v4 v5 (v7 + 1) μ) = some (r, μ') := h
  refine wm_iinc (lv' := [(7, vI (v7 + 1)), (0, vR v0), (1, vI v1), (2, vI v2), (3, vI v3), (4, vI v4), (5, vI v5)]) (d := 1) E dP_near_144 (by decide) (j := 6) rfl (by decide) rfl ?_
  refine wm_goto (tgt := 73) E dP_near_147 (by decide) ?_
  refine wm_pick (lv' := [(0, vR v0), (1, vI v1), (2, vI v2), (3, vI v3), (4, vI v4), (5, vI v5), (7, vI (v7 + 1))]) [1, 2, 3, 4, 5, 6, 0] rfl ?_
  exact hk73 v0 v1 v2 v3 v4 v5 (v7 + 1) μ h
def B_P_near_125 (k73 : Option Nat → Int32 → Int32 → Int32 → Int32 → Int32 → Int32 → Mem → Option ((Nat ⊕ Int32) × Mem)) (v0 : Option Nat) (v1 : Int32) (v2 : Int32) (v3 : Int32) (v4 : Int32) (v5 : Int32) (v7 : Int32) (v8 : Option Nat) (μ : Mem) : Option ((Nat ⊕ Int32) × Mem) := b1 (gR μ v0 11 9) (fun x126 => b1 (rc μ v8 7) (fun _ => b1 (S_Pl_squareTo v8 v1 v2 v5 μ) (fun x137 => b1 (rc μ x126 4) (fun _ => b2 (S_Hi_add x126 v7 ((x137 : Int32).toInt64) μ) (fun x141 m141 => B_P_near_144 k73 v0 v1 v2 v3 v4 v5 v7 m141)))))
set_option maxHeartbeats 4000000 in
set_option maxRecDepth 100000 in
theorem w_P_near_125 {X : CX} (E : EV X prog_1_method_13_code 9 "PlaceFinder" (some .int)) {μ0 μ' : Mem} {r : (Nat ⊕ Int32)} (hQ : RQ2 X 1 6 μ0 (cvI r) μ') (hR : xR X = { frames := 6, cells := 1, slots := 6, locals := 111 }) (hI : X.2.2.2.2.2.2.2.2.2.2.2.1.name = "near") (k73 : Option Nat → Int32 → Int32 → Int32 → Int32 → Int32 → Int32 → Mem → Option ((Nat ⊕ Int32) × Mem)) (hk73 : ∀ (v0 : Option Nat) (v1 : Int32) (v2 : Int32) (v3 : Int32) (v4 : Int32) (v5 : Int32) (v7 : Int32) (μ : Mem), k73 v0 v1 v2 v3 v4 v5 v7 μ = some (r, μ') → WM X 9 73 [(0, vR v0), (1, vI v1), (2, vI v2), (3, vI v3), (4, vI v4), (5, vI v5), (7, vI v7)] [] 0 0 μ) (v0 : Option Nat) (v1 : Int32) (v2 : Int32) (v3 : Int32) (v4 : Int32) (v5 : Int32) (v7 : Int32) (v8 : Option Nat) (μ : Mem) (h : B_P_near_125 k73 v0 v1 v2 v3 v4 v5 v7 v8 μ = some (r, μ')) : WM X 9 125 [(0, vR v0), (1, vI v1), (2, vI v2), (3, vI v3), (4, vI v4), (5, vI v5), (7, vI v7), (8, vR v8)] [] 0 0 μ := by
  have h : (b1 (gR μ v0 11 9) (fun x126 => b1 (rc μ v8 7) (fun _ => b1 (S_Pl_squareTo v8 v1 v2 v5 μ) (fun x137 => b1 (rc μ x126 4) (fun _ => b2 (S_Hi_add x126 v7 ((x137 : Int32).toInt64) μ) (fun x141 m141 => B_P_near_144 k73 v0 v1 v2 v3 v4 v5 v7 m141)))))) = some (r, μ') := h
  refine wm_aload_n E dP_near_125 rfl (j := 0) rfl ?_
  refine wm_gR E fd_P_55 h dP_near_126 (fun x126 h => ?_)
  refine wm_iload E dP_near_129 (j := 6) rfl ?_
  refine wm_aload E dP_near_131 (j := 7) rfl ?_
  refine wm_iload_n E dP_near_133 rfl (j := 1) rfl ?_
  refine wm_iload_n E dP_near_134 rfl (j := 2) rfl ?_
  refine wm_iload E dP_near_135 (j := 5) rfl ?_
  obtain ⟨u137, hr137, h⟩ := b1S h
  obtain ⟨x137, hc137, h⟩ := b1S h
  refine wm_cV (ci := 7) (As := [vI v1, vI v2, vI v5]) (st := [vI v7, vR x126]) E lk_P_249 rfl im_Pl_squareTo sl_Pl_squareTo hr137 (C_Pl_squareTo (xl X) X.1 v8 v1 v2 v5 μ _ hc137) rfl rfl (by rw [hR]; decide) (by rw [hR]; decide) (Nat.le_of_ble_eq_true rfl) dP_near_137 ?_
  refine wm_i2l E dP_near_140 ?_
  obtain ⟨u141, hr141, h⟩ := b1S h
  obtain ⟨x141, m141, hc141, h⟩ := b2S h
  refine wm_cV (ci := 4) (As := [vI v7, vL ((x137 : Int32).toInt64)]) (st := []) E lk_P_235 rfl im_Hi_add sl_Hi_add hr141 (C_Hi_add (xl X) X.1 x126 v7 ((x137 : Int32).toInt64) μ _ _ hc141) rfl rfl (by rw [hR]; decide) (by rw [hR]; decide) (Nat.le_of_ble_eq_true rfl) dP_near_141 ?_
  refine wm_pick (lv' := [(0, vR v0), (1, vI v1), (2, vI v2), (3, vI v3), (4, vI v4), (5, vI v5), (7, vI v7)]) [0, 1, 2, 3, 4, 5, 6] rfl ?_
  exact w_P_near_144 E hQ hR hI k73 hk73 v0 v1 v2 v3 v4 v5 v7 m141 h
def B_P_near_73  : Nat → Option Nat → Int32 → Int32 → Int32 → Int32 → Int32 → Int32 → Mem → Option ((Nat ⊕ Int32) × Mem)
  | 0, _, _, _, _, _, _, _, _ => none
  | n + 1, v0, v1, v2, v3, v4, v5, v7, μ => b1 (gR μ v0 11 0) (fun x76 => b1 (rc μ x76 0) (fun _ => b1 (S_Al_size x76 μ) (fun x79 => if x79 ≤ v7 then b1 (gR μ v0 11 9) (fun x151 => b1 (rc μ x151 4) (fun _ => b2 (S_Hi_keepFirst x151 v3 μ) (fun x155 m155 => b1 (gR m155 v0 11 9) (fun x159 => b1 (gI m155 x159 4 2) (fun x162 => some (.inr x162, m155)))))) else b1 (gR μ v0 11 0) (fun x86 => b1 (rc μ x86 0) (fun _ => b1 (S_Al_get x86 v7 μ) (fun x91 => b1 (cK μ x91 7) (fun _ => b1 (rc μ x91 7) (fun _ => b1 (S_Pl_isThere x91 v5 μ) (fun x103 => if x103 = 0 then B_P_near_144 (fun v0 v1 v2 v3 v4 v5 v7 μ => B_P_near_73 n v0 v1 v2 v3 v4 v5 v7 μ) v0 v1 v2 v3 v4 v5 v7 μ else if v4 = ((-1)) then B_P_near_125 (fun v0 v1 v2 v3 v4 v5 v7 μ => B_P_near_73 n v0 v1 v2 v3 v4 v5 v7 μ) v0 v1 v2 v3 v4 v5 v7 x91 μ else b1 (gI μ x91 7 1) (fun x117 => if x117 = v4 then B_P_near_125 (fun v0 v1 v2 v3 v4 v5 v7 μ => B_P_near_73 n v0 v1 v2 v3 v4 v5 v7 μ) v0 v1 v2 v3 v4 v5 v7 x91 μ else B_P_near_144 (fun v0 v1 v2 v3 v4 v5 v7 μ => B_P_near_73 n v0 v1 v2 v3 v4 v5 v7 μ) v0 v1 v2 v3 v4 v5 v7 μ))))))))))
set_option maxHeartbeats 4000000 in
set_option maxRecDepth 100000 in
theorem w_P_near_73 {X : CX} (E : EV X prog_1_method_13_code 9 "PlaceFinder" (some .int)) {μ0 μ' : Mem} {r : (Nat ⊕ Int32)} (hQ : RQ2 X 1 6 μ0 (cvI r) μ') (hR : xR X = { frames := 6, cells := 1, slots := 6, locals := 111 }) (hI : X.2.2.2.2.2.2.2.2.2.2.2.1.name = "near")  (n : Nat) : ∀ (v0 : Option Nat) (v1 : Int32) (v2 : Int32) (v3 : Int32) (v4 : Int32) (v5 : Int32) (v7 : Int32) (μ : Mem) (h : B_P_near_73  n v0 v1 v2 v3 v4 v5 v7 μ = some (r, μ')), WM X 9 73 [(0, vR v0), (1, vI v1), (2, vI v2), (3, vI v3), (4, vI v4), (5, vI v5), (7, vI v7)] [] 0 0 μ := by
  induction n with
  | zero => intro v0 v1 v2 v3 v4 v5 v7 μ h; cases h
  | succ n ih =>
    intro v0 v1 v2 v3 v4 v5 v7 μ h
    have h : (b1 (gR μ v0 11 0) (fun x76 => b1 (rc μ x76 0) (fun _ => b1 (S_Al_size x76 μ) (fun x79 => if x79 ≤ v7 then b1 (gR μ v0 11 9) (fun x151 => b1 (rc μ x151 4) (fun _ => b2 (S_Hi_keepFirst x151 v3 μ) (fun x155 m155 => b1 (gR m155 v0 11 9) (fun x159 => b1 (gI m155 x159 4 2) (fun x162 => some (.inr x162, m155)))))) else b1 (gR μ v0 11 0) (fun x86 => b1 (rc μ x86 0) (fun _ => b1 (S_Al_get x86 v7 μ) (fun x91 => b1 (cK μ x91 7) (fun _ => b1 (rc μ x91 7) (fun _ => b1 (S_Pl_isThere x91 v5 μ) (fun x103 => if x103 = 0 then B_P_near_144 (fun v0 v1 v2 v3 v4 v5 v7 μ => B_P_near_73 n v0 v1 v2 v3 v4 v5 v7 μ) v0 v1 v2 v3 v4 v5 v7 μ else if v4 = ((-1)) then B_P_near_125 (fun v0 v1 v2 v3 v4 v5 v7 μ => B_P_near_73 n v0 v1 v2 v3 v4 v5 v7 μ) v0 v1 v2 v3 v4 v5 v7 x91 μ else b1 (gI μ x91 7 1) (fun x117 => if x117 = v4 then B_P_near_125 (fun v0 v1 v2 v3 v4 v5 v7 μ => B_P_near_73 n v0 v1 v2 v3 v4 v5 v7 μ) v0 v1 v2 v3 v4 v5 v7 x91 μ else B_P_near_144 (fun v0 v1 v2 v3 v4 v5 v7 μ => B_P_near_73 n v0 v1 v2 v3 v4 v5 v7 μ) v0 v1 v2 v3 v4 v5 v7 μ))))))))))) = some (r, μ') := h
    refine wm_iload E dP_near_73 (j := 6) rfl ?_
    refine wm_aload_n E dP_near_75 rfl (j := 0) rfl ?_
    refine wm_gR E fd_P_10 h dP_near_76 (fun x76 h => ?_)
    obtain ⟨u79, hr79, h⟩ := b1S h
    obtain ⟨x79, hc79, h⟩ := b1S h
    refine wm_cV (ci := 0) (As := []) (st := [vI v7]) E lk_P_98 rfl im_Al_size sl_Al_size hr79 (C_Al_size (xl X) X.1 x76 μ _ hc79) rfl rfl (by rw [hR]; decide) (by rw [hR]; decide) (Nat.le_of_ble_eq_true rfl) dP_near_79 ?_
    refine wm_icmp_ge (tgt := 150) E dP_near_82 (by decide) (fun c82 => ?_) (fun c82 => ?_)
    · have h := (if_pos c82).symm.trans h
      refine wm_aload_n E dP_near_150 rfl (j := 0) rfl ?_
      refine wm_gR E fd_P_55 h dP_near_151 (fun x151 h => ?_)
      refine wm_iload_n E dP_near_154 rfl (j := 3) rfl ?_
      obtain ⟨u155, hr155, h⟩ := b1S h
      obtain ⟨x155, m155, hc155, h⟩ := b2S h
      refine wm_cV (ci := 4) (As := [vI v3]) (st := []) E lk_P_253 rfl im_Hi_keepFirst sl_Hi_keepFirst hr155 (C_Hi_keepFirst (xl X) X.1 x151 v3 μ _ _ hc155) rfl rfl (by rw [hR]; decide) (by rw [hR]; decide) (Nat.le_of_ble_eq_true rfl) dP_near_155 ?_
      refine wm_aload_n E dP_near_158 rfl (j := 0) rfl ?_
      refine wm_gR E fd_P_55 h dP_near_159 (fun x159 h => ?_)
      refine wm_gI E fd_P_238 h dP_near_162 (fun x162 h => ?_)
      exact wm_iret (rt := .int) E (rqI hQ h) rfl rfl (by decide) (by decide) dP_near_165
    · have h := (if_neg c82).symm.trans h
      refine wm_aload_n E dP_near_85 rfl (j := 0) rfl ?_
      refine wm_gR E fd_P_10 h dP_near_86 (fun x86 h => ?_)
      refine wm_iload E dP_near_89 (j := 6) rfl ?_
      obtain ⟨u91, hr91, h⟩ := b1S h
      obtain ⟨x91, hc91, h⟩ := b1S h
      refine wm_cV (ci := 0) (As := [vI v7]) (st := []) E lk_P_223 rfl im_Al_get sl_Al_get hr91 (C_Al_get (xl X) X.1 x86 v7 μ _ hc91) rfl rfl (by rw [hR]; decide) (by rw [hR]; decide) (Nat.le_of_ble_eq_true rfl) dP_near_91 ?_
      refine wm_ckc (ci := 7) E rfl cl_P_107 h dP_near_94 (fun h => ?_)
      refine wm_astore (lv' := [(8, vR x91), (0, vR v0), (1, vI v1), (2, vI v2), (3, vI v3), (4, vI v4), (5, vI v5), (7, vI v7)]) E dP_near_97 (by decide) rfl ?_
      refine wm_aload E dP_near_99 (j := 0) rfl ?_
      refine wm_iload E dP_near_101 (j := 6) rfl ?_
      obtain ⟨u103, hr103, h⟩ := b1S h
      obtain ⟨x103, hc103, h⟩ := b1S h
      refine wm_cV (ci := 7) (As := [vI v5]) (st := []) E lk_P_243 rfl im_Pl_isThere sl_Pl_isThere hr103 (C_Pl_isThere (xl X) X.1 x91 v5 μ _ hc103) rfl rfl (by rw [hR]; decide) (by rw [hR]; decide) (Nat.le_of_ble_eq_true rfl) dP_near_103 ?_
      refine wm_if_eq (tgt := 144) E dP_near_106 (by decide) (fun c106 => ?_) (fun c106 => ?_)
      · have h := (if_pos c106).symm.trans h
        refine wm_pick (lv' := [(0, vR v0), (1, vI v1), (2, vI v2), (3, vI v3), (4, vI v4), (5, vI v5), (7, vI v7)]) [1, 2, 3, 4, 5, 6, 7] rfl ?_
        exact w_P_near_144 E hQ hR hI (fun v0 v1 v2 v3 v4 v5 v7 μ => B_P_near_73 n v0 v1 v2 v3 v4 v5 v7 μ) ih v0 v1 v2 v3 v4 v5 v7 μ h
      · have h := (if_neg c106).symm.trans h
        refine wm_iload E dP_near_109 (j := 5) rfl ?_
        refine wm_iconst (x := -1) E dP_near_111 (by decide) ?_
        refine wm_icmp_eq (tgt := 125) E dP_near_112 (by decide) (fun c112 => ?_) (fun c112 => ?_)
        · have h := (if_pos c112).symm.trans h
          refine wm_pick (lv' := [(0, vR v0), (1, vI v1), (2, vI v2), (3, vI v3), (4, vI v4), (5, vI v5), (7, vI v7), (8, vR x91)]) [1, 2, 3, 4, 5, 6, 7, 0] rfl ?_
          exact w_P_near_125 E hQ hR hI (fun v0 v1 v2 v3 v4 v5 v7 μ => B_P_near_73 n v0 v1 v2 v3 v4 v5 v7 μ) ih v0 v1 v2 v3 v4 v5 v7 x91 μ h
        · have h := (if_neg c112).symm.trans h
          refine wm_aload E dP_near_115 (j := 0) rfl ?_
          refine wm_gI E fd_P_246 h dP_near_117 (fun x117 h => ?_)
          refine wm_iload E dP_near_120 (j := 5) rfl ?_
          refine wm_icmp_ne (tgt := 144) E dP_near_122 (by decide) (fun c122 => ?_) (fun c122 => ?_)
          · have h := (if_neg c122).symm.trans h
            refine wm_pick (lv' := [(0, vR v0), (1, vI v1), (2, vI v2), (3, vI v3), (4, vI v4), (5, vI v5), (7, vI v7)]) [1, 2, 3, 4, 5, 6, 7] rfl ?_
            exact w_P_near_144 E hQ hR hI (fun v0 v1 v2 v3 v4 v5 v7 μ => B_P_near_73 n v0 v1 v2 v3 v4 v5 v7 μ) ih v0 v1 v2 v3 v4 v5 v7 μ h
          · have h := (if_pos c122).symm.trans h
            refine wm_pick (lv' := [(0, vR v0), (1, vI v1), (2, vI v2), (3, vI v3), (4, vI v4), (5, vI v5), (7, vI v7), (8, vR x91)]) [1, 2, 3, 4, 5, 6, 7, 0] rfl ?_
            exact w_P_near_125 E hQ hR hI (fun v0 v1 v2 v3 v4 v5 v7 μ => B_P_near_73 n v0 v1 v2 v3 v4 v5 v7 μ) ih v0 v1 v2 v3 v4 v5 v7 x91 μ h
def B_P_near_19  (v0 : Option Nat) (v1 : Int32) (v2 : Int32) (v3 : Int32) (v4 : Int32) (v5 : Int32) (s0 : Int32) (μ : Mem) : Option ((Nat ⊕ Int32) × Mem) := b1 (S_P_arePosition v1 v2 μ) (fun x23 => if x23 = 0 then B_P_near_53 μ else if v3 < 1 then B_P_near_53 μ else if 30 < v3 then B_P_near_53 μ else if s0 = 0 then B_P_near_53 μ else b1 (S_P_isDay v5 μ) (fun x47 => if x47 = 0 then B_P_near_53 μ else b1 (gR μ v0 11 9) (fun x64 => b1 (rc μ x64 4) (fun _ => b2 (S_Hi_empty x64 μ) (fun x67 m67 => B_P_near_73 fu v0 v1 v2 v3 v4 v5 0 m67)))))
set_option maxHeartbeats 4000000 in
set_option maxRecDepth 100000 in
theorem w_P_near_19 {X : CX} (E : EV X prog_1_method_13_code 9 "PlaceFinder" (some .int)) {μ0 μ' : Mem} {r : (Nat ⊕ Int32)} (hQ : RQ2 X 1 6 μ0 (cvI r) μ') (hR : xR X = { frames := 6, cells := 1, slots := 6, locals := 111 }) (hI : X.2.2.2.2.2.2.2.2.2.2.2.1.name = "near")  (v0 : Option Nat) (v1 : Int32) (v2 : Int32) (v3 : Int32) (v4 : Int32) (v5 : Int32) (s0 : Int32) (μ : Mem) (h : B_P_near_19  v0 v1 v2 v3 v4 v5 s0 μ = some (r, μ')) : WM X 9 19 [(0, vR v0), (1, vI v1), (2, vI v2), (3, vI v3), (4, vI v4), (5, vI v5)] [vI s0] 0 0 μ := by
  have h : (b1 (S_P_arePosition v1 v2 μ) (fun x23 => if x23 = 0 then B_P_near_53 μ else if v3 < 1 then B_P_near_53 μ else if 30 < v3 then B_P_near_53 μ else if s0 = 0 then B_P_near_53 μ else b1 (S_P_isDay v5 μ) (fun x47 => if x47 = 0 then B_P_near_53 μ else b1 (gR μ v0 11 9) (fun x64 => b1 (rc μ x64 4) (fun _ => b2 (S_Hi_empty x64 μ) (fun x67 m67 => B_P_near_73 fu v0 v1 v2 v3 v4 v5 0 m67)))))) = some (r, μ') := h
  refine wm_istore (lv' := [(6, vI s0), (0, vR v0), (1, vI v1), (2, vI v2), (3, vI v3), (4, vI v4), (5, vI v5)]) E dP_near_19 (by decide) rfl ?_
  refine wm_iload_n E dP_near_21 rfl (j := 2) rfl ?_
  refine wm_iload_n E dP_near_22 rfl (j := 3) rfl ?_
  obtain ⟨x23, hc23, h⟩ := b1S h
  refine wm_cS (As := [vI v1, vI v2]) (st := []) E lk_P_116 sc_P_arePosition (C_P_arePosition (xl X) X.1 v1 v2 μ _ hc23) rfl rfl (by rw [hR]; decide) (by rw [hR]; decide) (Nat.le_of_ble_eq_true rfl) dP_near_23 ?_
  refine wm_if_eq (tgt := 53) E dP_near_26 (by decide) (fun c26 => ?_) (fun c26 => ?_)
  · have h := (if_pos c26).symm.trans h
    refine wm_pick (lv' := []) [] rfl ?_
    exact w_P_near_53 E hQ hR hI μ h
  · have h := (if_neg c26).symm.trans h
    refine wm_iload_n E dP_near_29 rfl (j := 4) rfl ?_
    refine wm_iconst (x := 1) E dP_near_30 (by decide) ?_
    refine wm_icmp_lt (tgt := 53) E dP_near_31 (by decide) (fun c31 => ?_) (fun c31 => ?_)
    · have h := (if_pos c31).symm.trans h
      refine wm_pick (lv' := []) [] rfl ?_
      exact w_P_near_53 E hQ hR hI μ h
    · have h := (if_neg c31).symm.trans h
      refine wm_iload_n E dP_near_34 rfl (j := 4) rfl ?_
      refine wm_bipush (x := 30) E dP_near_35 (by decide) ?_
      refine wm_icmp_gt (tgt := 53) E dP_near_37 (by decide) (fun c37 => ?_) (fun c37 => ?_)
      · have h := (if_pos c37).symm.trans h
        refine wm_pick (lv' := []) [] rfl ?_
        exact w_P_near_53 E hQ hR hI μ h
      · have h := (if_neg c37).symm.trans h
        refine wm_iload E dP_near_40 (j := 0) rfl ?_
        refine wm_if_eq (tgt := 53) E dP_near_42 (by decide) (fun c42 => ?_) (fun c42 => ?_)
        · have h := (if_pos c42).symm.trans h
          refine wm_pick (lv' := []) [] rfl ?_
          exact w_P_near_53 E hQ hR hI μ h
        · have h := (if_neg c42).symm.trans h
          refine wm_iload E dP_near_45 (j := 6) rfl ?_
          obtain ⟨x47, hc47, h⟩ := b1S h
          refine wm_cS (As := [vI v5]) (st := []) E lk_P_128 sc_P_isDay (C_P_isDay (xl X) X.1 v5 μ _ hc47) rfl rfl (by rw [hR]; decide) (by rw [hR]; decide) (Nat.le_of_ble_eq_true rfl) dP_near_47 ?_
          refine wm_if_ne (tgt := 63) E dP_near_50 (by decide) (fun c50 => ?_) (fun c50 => ?_)
          · have h := (if_neg c50).symm.trans h
            refine wm_aload_n E dP_near_63 rfl (j := 1) rfl ?_
            refine wm_gR E fd_P_55 h dP_near_64 (fun x64 h => ?_)
            obtain ⟨u67, hr67, h⟩ := b1S h
            obtain ⟨x67, m67, hc67, h⟩ := b2S h
            refine wm_cV (ci := 4) (As := []) (st := []) E lk_P_220 rfl im_Hi_empty sl_Hi_empty hr67 (C_Hi_empty (xl X) X.1 x64 μ _ _ hc67) rfl rfl (by rw [hR]; decide) (by rw [hR]; decide) (Nat.le_of_ble_eq_true rfl) dP_near_67 ?_
            refine wm_iconst (x := 0) E dP_near_70 (by decide) ?_
            refine wm_istore (lv' := [(7, vI 0), (6, vI s0), (0, vR v0), (1, vI v1), (2, vI v2), (3, vI v3), (4, vI v4), (5, vI v5)]) E dP_near_71 (by decide) rfl ?_
            refine wm_pick (lv' := [(0, vR v0), (1, vI v1), (2, vI v2), (3, vI v3), (4, vI v4), (5, vI v5), (7, vI 0)]) [2, 3, 4, 5, 6, 7, 0] rfl ?_
            exact w_P_near_73 E hQ hR hI fu v0 v1 v2 v3 v4 v5 0 m67 h
          · have h := (if_pos c50).symm.trans h
            refine wm_pick (lv' := []) [] rfl ?_
            exact w_P_near_53 E hQ hR hI μ h
def B_P_near_14  (v0 : Option Nat) (v1 : Int32) (v2 : Int32) (v3 : Int32) (v4 : Int32) (v5 : Int32) (μ : Mem) : Option ((Nat ⊕ Int32) × Mem) := B_P_near_19 v0 v1 v2 v3 v4 v5 1 μ
set_option maxHeartbeats 4000000 in
set_option maxRecDepth 100000 in
theorem w_P_near_14 {X : CX} (E : EV X prog_1_method_13_code 9 "PlaceFinder" (some .int)) {μ0 μ' : Mem} {r : (Nat ⊕ Int32)} (hQ : RQ2 X 1 6 μ0 (cvI r) μ') (hR : xR X = { frames := 6, cells := 1, slots := 6, locals := 111 }) (hI : X.2.2.2.2.2.2.2.2.2.2.2.1.name = "near")  (v0 : Option Nat) (v1 : Int32) (v2 : Int32) (v3 : Int32) (v4 : Int32) (v5 : Int32) (μ : Mem) (h : B_P_near_14  v0 v1 v2 v3 v4 v5 μ = some (r, μ')) : WM X 9 14 [(0, vR v0), (1, vI v1), (2, vI v2), (3, vI v3), (4, vI v4), (5, vI v5)] [] 0 0 μ := by
  have h : (B_P_near_19 v0 v1 v2 v3 v4 v5 1 μ) = some (r, μ') := h
  refine wm_iconst (x := 1) E dP_near_14 (by decide) ?_
  refine wm_goto (tgt := 19) E dP_near_15 (by decide) ?_
  refine wm_pick (lv' := [(0, vR v0), (1, vI v1), (2, vI v2), (3, vI v3), (4, vI v4), (5, vI v5)]) [0, 1, 2, 3, 4, 5] rfl ?_
  exact w_P_near_19 E hQ hR hI v0 v1 v2 v3 v4 v5 1 μ h
def S_P_near (v0 : Option Nat) (v1 : Int32) (v2 : Int32) (v3 : Int32) (v4 : Int32) (v5 : Int32) (μ : Mem) : Option ((Nat ⊕ Int32) × Mem) := if v4 = ((-1)) then B_P_near_14 v0 v1 v2 v3 v4 v5 μ else b1 (S_P_isKind v4 μ) (fun x8 => if x8 = 0 then B_P_near_19 v0 v1 v2 v3 v4 v5 0 μ else B_P_near_14 v0 v1 v2 v3 v4 v5 μ)
set_option maxHeartbeats 4000000 in
set_option maxRecDepth 100000 in
theorem w_P_near_e {X : CX} (E : EV X prog_1_method_13_code 9 "PlaceFinder" (some .int)) {μ0 μ' : Mem} {r : (Nat ⊕ Int32)} (hQ : RQ2 X 1 6 μ0 (cvI r) μ') (hR : xR X = { frames := 6, cells := 1, slots := 6, locals := 111 }) (hI : X.2.2.2.2.2.2.2.2.2.2.2.1.name = "near") (v0 : Option Nat) (v1 : Int32) (v2 : Int32) (v3 : Int32) (v4 : Int32) (v5 : Int32) (μ : Mem) (h : S_P_near v0 v1 v2 v3 v4 v5 μ = some (r, μ')) : WM X 9 0 [(0, vR v0), (1, vI v1), (2, vI v2), (3, vI v3), (4, vI v4), (5, vI v5)] [] 0 0 μ := by
  have h : (if v4 = ((-1)) then B_P_near_14 v0 v1 v2 v3 v4 v5 μ else b1 (S_P_isKind v4 μ) (fun x8 => if x8 = 0 then B_P_near_19 v0 v1 v2 v3 v4 v5 0 μ else B_P_near_14 v0 v1 v2 v3 v4 v5 μ)) = some (r, μ') := h
  refine wm_iload E dP_near_0 (j := 4) rfl ?_
  refine wm_iconst (x := -1) E dP_near_2 (by decide) ?_
  refine wm_icmp_eq (tgt := 14) E dP_near_3 (by decide) (fun c3 => ?_) (fun c3 => ?_)
  · have h := (if_pos c3).symm.trans h
    refine wm_pick (lv' := [(0, vR v0), (1, vI v1), (2, vI v2), (3, vI v3), (4, vI v4), (5, vI v5)]) [0, 1, 2, 3, 4, 5] rfl ?_
    exact w_P_near_14 E hQ hR hI v0 v1 v2 v3 v4 v5 μ h
  · have h := (if_neg c3).symm.trans h
    refine wm_iload E dP_near_6 (j := 4) rfl ?_
    obtain ⟨x8, hc8, h⟩ := b1S h
    refine wm_cS (As := [vI v4]) (st := []) E lk_P_87 sc_P_isKind (C_P_isKind (xl X) X.1 v4 μ _ hc8) rfl rfl (by rw [hR]; decide) (by rw [hR]; decide) (Nat.le_of_ble_eq_true rfl) dP_near_8 ?_
    refine wm_if_eq (tgt := 18) E dP_near_11 (by decide) (fun c11 => ?_) (fun c11 => ?_)
    · have h := (if_pos c11).symm.trans h
      refine wm_iconst (x := 0) E dP_near_18 (by decide) ?_
      refine wm_pick (lv' := [(0, vR v0), (1, vI v1), (2, vI v2), (3, vI v3), (4, vI v4), (5, vI v5)]) [0, 1, 2, 3, 4, 5] rfl ?_
      exact w_P_near_19 E hQ hR hI v0 v1 v2 v3 v4 v5 0 μ h
    · have h := (if_neg c11).symm.trans h
      refine wm_pick (lv' := [(0, vR v0), (1, vI v1), (2, vI v2), (3, vI v3), (4, vI v4), (5, vI v5)]) [0, 1, 2, 3, 4, 5] rfl ?_
      exact w_P_near_14 E hQ hR hI v0 v1 v2 v3 v4 v5 μ h
theorem C_P_near (l : Launch) (G : GG) (v0 : Option Nat) (v1 : Int32) (v2 : Int32) (v3 : Int32) (v4 : Int32) (v5 : Int32) (μ μ' : Mem) (r : Int32) (h : S_P_near v0 v1 v2 v3 v4 v5 μ = some (.inr r, μ')) : CT l G y_P_near prog_1_method_13_code 9 (some .int) 6 1 6 111 μ [vR v0, vI v1, vI v2, vI v3, vI v4, vI v5] (some (vI r)) μ' := by
  refine wm_met (lv := [(0, vR v0), (1, vI v1), (2, vI v2), (3, vI v3), (4, vI v4), (5, vI v5)]) (by decide +kernel) (Nat.le_of_ble_eq_true rfl) rfl (fun X E hQ hR hI => ?_)
  exact w_P_near_e (r := .inr r) E hQ hR hI v0 v1 v2 v3 v4 v5 μ h
theorem X_P_near (l : Launch) (hl : LF l) (G : GG) (v0 : Option Nat) (v1 : Int32) (v2 : Int32) (v3 : Int32) (v4 : Int32) (v5 : Int32) (μ μ' : Mem) (k : Nat) (h : S_P_near v0 v1 v2 v3 v4 v5 (m_up μ) = some (.inl k, μ')) : CZ l G y_P_near prog_1_method_13_code 9 (some .int) 6 1 6 111 μ [vR v0, vI v1, vI v2, vI v3, vI v4, vI v5] (exN k) := by
  refine wm_metX hl (lv := [(0, vR v0), (1, vI v1), (2, vI v2), (3, vI v3), (4, vI v4), (5, vI v5)]) (by decide +kernel) (Nat.le_of_ble_eq_true rfl) rfl (fun X E hX hR hI => ?_)
  exact w_P_near_e (μ0 := μ) (r := .inl k) E ⟨μ, hX⟩ hR hI v0 v1 v2 v3 v4 v5 (m_up μ) h
def B_P_hit_15   (μ : Mem) : Option ((Nat ⊕ Int32) × Mem) := some (.inl 3, μ)
set_option maxHeartbeats 4000000 in
set_option maxRecDepth 100000 in
theorem w_P_hit_15 {X : CX} (E : EV X prog_1_method_14_code 2 "PlaceFinder" (some .int)) {μ0 μ' : Mem} {r : (Nat ⊕ Int32)} (hQ : RQ2 X 1 6 μ0 (cvI r) μ') (hR : xR X = { frames := 6, cells := 1, slots := 6, locals := 99 }) (hI : X.2.2.2.2.2.2.2.2.2.2.2.1.name = "hit")   (μ : Mem) (h : B_P_hit_15   μ = some (r, μ')) : WM X 2 15 [] [] 0 0 μ := by
  have h : (some (.inl 3, μ)) = some (r, μ') := h
  obtain ⟨μs, hX⟩ := rqXI hQ h
  exact wm_throw (ln := 3) (names := exU) (cls := "java/lang/IndexOutOfBoundsException") E tf_P_257_259 hX ⟨(by rw [hR]; decide), by decide⟩ ⟨(by rw [hR]; decide), by decide⟩ (by rw [hR]; decide) (by rw [hR]; decide) (Nat.le_of_ble_eq_true rfl) dP_hit_15 dP_hit_18 (Or.inr ⟨rfl, dP_hit_19⟩) dP_hit_22 dP_hit_25
def S_P_hit (v0 : Option Nat) (v1 : Int32) (μ : Mem) : Option ((Nat ⊕ Int32) × Mem) := if v1 < 0 then B_P_hit_15 μ else b1 (gR μ v0 11 9) (fun x6 => b1 (gI μ x6 4 2) (fun x9 => if v1 < x9 then b1 (gR μ v0 11 9) (fun x27 => b1 (gR μ x27 4 0) (fun x30 => b1 (aI μ x30 0 v1) (fun x34 => some (.inr x34, μ)))) else B_P_hit_15 μ))
set_option maxHeartbeats 4000000 in
set_option maxRecDepth 100000 in
theorem w_P_hit_e {X : CX} (E : EV X prog_1_method_14_code 2 "PlaceFinder" (some .int)) {μ0 μ' : Mem} {r : (Nat ⊕ Int32)} (hQ : RQ2 X 1 6 μ0 (cvI r) μ') (hR : xR X = { frames := 6, cells := 1, slots := 6, locals := 99 }) (hI : X.2.2.2.2.2.2.2.2.2.2.2.1.name = "hit") (v0 : Option Nat) (v1 : Int32) (μ : Mem) (h : S_P_hit v0 v1 μ = some (r, μ')) : WM X 2 0 [(0, vR v0), (1, vI v1)] [] 0 0 μ := by
  have h : (if v1 < 0 then B_P_hit_15 μ else b1 (gR μ v0 11 9) (fun x6 => b1 (gI μ x6 4 2) (fun x9 => if v1 < x9 then b1 (gR μ v0 11 9) (fun x27 => b1 (gR μ x27 4 0) (fun x30 => b1 (aI μ x30 0 v1) (fun x34 => some (.inr x34, μ)))) else B_P_hit_15 μ))) = some (r, μ') := h
  refine wm_iload_n E dP_hit_0 rfl (j := 1) rfl ?_
  refine wm_if_lt (tgt := 15) E dP_hit_1 (by decide) (fun c1 => ?_) (fun c1 => ?_)
  · have h := (if_pos c1).symm.trans h
    refine wm_pick (lv' := []) [] rfl ?_
    exact w_P_hit_15 E hQ hR hI μ h
  · have h := (if_neg c1).symm.trans h
    refine wm_iload_n E dP_hit_4 rfl (j := 1) rfl ?_
    refine wm_aload_n E dP_hit_5 rfl (j := 0) rfl ?_
    refine wm_gR E fd_P_55 h dP_hit_6 (fun x6 h => ?_)
    refine wm_gI E fd_P_238 h dP_hit_9 (fun x9 h => ?_)
    refine wm_icmp_lt (tgt := 26) E dP_hit_12 (by decide) (fun c12 => ?_) (fun c12 => ?_)
    · have h := (if_pos c12).symm.trans h
      refine wm_aload_n E dP_hit_26 rfl (j := 0) rfl ?_
      refine wm_gR E fd_P_55 h dP_hit_27 (fun x27 h => ?_)
      refine wm_gR E fd_P_262 h dP_hit_30 (fun x30 h => ?_)
      refine wm_iload_n E dP_hit_33 rfl (j := 1) rfl ?_
      refine wm_iald (t := 0) E rfl h dP_hit_34 (fun x34 h => ?_)
      exact wm_iret (rt := .int) E (rqI hQ h) rfl rfl (by decide) (by decide) dP_hit_35
    · have h := (if_neg c12).symm.trans h
      refine wm_pick (lv' := []) [] rfl ?_
      exact w_P_hit_15 E hQ hR hI μ h
theorem C_P_hit (l : Launch) (G : GG) (v0 : Option Nat) (v1 : Int32) (μ μ' : Mem) (r : Int32) (h : S_P_hit v0 v1 μ = some (.inr r, μ')) : CT l G y_P_hit prog_1_method_14_code 2 (some .int) 6 1 6 99 μ [vR v0, vI v1] (some (vI r)) μ' := by
  refine wm_met (lv := [(0, vR v0), (1, vI v1)]) (by decide +kernel) (Nat.le_of_ble_eq_true rfl) rfl (fun X E hQ hR hI => ?_)
  exact w_P_hit_e (r := .inr r) E hQ hR hI v0 v1 μ h
theorem X_P_hit (l : Launch) (hl : LF l) (G : GG) (v0 : Option Nat) (v1 : Int32) (μ μ' : Mem) (k : Nat) (h : S_P_hit v0 v1 (m_up μ) = some (.inl k, μ')) : CZ l G y_P_hit prog_1_method_14_code 2 (some .int) 6 1 6 99 μ [vR v0, vI v1] (exN k) := by
  refine wm_metX hl (lv := [(0, vR v0), (1, vI v1)]) (by decide +kernel) (Nat.le_of_ble_eq_true rfl) rfl (fun X E hX hR hI => ?_)
  exact w_P_hit_e (μ0 := μ) (r := .inl k) E ⟨μ, hX⟩ hR hI v0 v1 (m_up μ) h
def B_P_chain_23   (μ : Mem) : Option ((Nat ⊕ Int32) × Mem) := some (.inl 0, μ)
set_option maxHeartbeats 4000000 in
set_option maxRecDepth 100000 in
theorem w_P_chain_23 {X : CX} (E : EV X prog_1_method_15_code 6 "PlaceFinder" (some .int)) {μ0 μ' : Mem} {r : (Nat ⊕ Int32)} (hQ : RQ2 X 1 6 μ0 (cvI r) μ') (hR : xR X = { frames := 6, cells := 1, slots := 6, locals := 99 }) (hI : X.2.2.2.2.2.2.2.2.2.2.2.1.name = "chain")   (μ : Mem) (h : B_P_chain_23   μ = some (r, μ')) : WM X 6 23 [] [] 0 0 μ := by
  have h : (some (.inl 0, μ)) = some (r, μ') := h
  obtain ⟨μs, hX⟩ := rqXI hQ h
  exact wm_throw (ln := 3) (names := exU) (cls := "java/lang/IllegalArgumentException") E tf_P_91_265 hX ⟨(by rw [hR]; decide), by decide⟩ ⟨(by rw [hR]; decide), by decide⟩ (by rw [hR]; decide) (by rw [hR]; decide) (Nat.le_of_ble_eq_true rfl) dP_chain_23 dP_chain_26 (Or.inr ⟨rfl, dP_chain_27⟩) dP_chain_30 dP_chain_33
def B_P_chain_84  (s0 : Int32) (μ : Mem) : Option ((Nat ⊕ Int32) × Mem) := some (.inr s0, μ)
set_option maxHeartbeats 4000000 in
set_option maxRecDepth 100000 in
theorem w_P_chain_84 {X : CX} (E : EV X prog_1_method_15_code 6 "PlaceFinder" (some .int)) {μ0 μ' : Mem} {r : (Nat ⊕ Int32)} (hQ : RQ2 X 1 6 μ0 (cvI r) μ') (hR : xR X = { frames := 6, cells := 1, slots := 6, locals := 99 }) (hI : X.2.2.2.2.2.2.2.2.2.2.2.1.name = "chain")  (s0 : Int32) (μ : Mem) (h : B_P_chain_84  s0 μ = some (r, μ')) : WM X 6 84 [] [vI s0] 0 0 μ := by
  have h : (some (.inr s0, μ)) = some (r, μ') := h
  exact wm_iret (rt := .int) E (rqI hQ h) rfl rfl (by decide) (by decide) dP_chain_84
def B_P_chain_70  (v4 : Option Nat) (μ : Mem) : Option ((Nat ⊕ Int32) × Mem) := if v4 = none then B_P_chain_84 ((-1)) μ else b1 (gI μ v4 7 0) (fun x81 => B_P_chain_84 x81 μ)
set_option maxHeartbeats 4000000 in
set_option maxRecDepth 100000 in
theorem w_P_chain_70 {X : CX} (E : EV X prog_1_method_15_code 6 "PlaceFinder" (some .int)) {μ0 μ' : Mem} {r : (Nat ⊕ Int32)} (hQ : RQ2 X 1 6 μ0 (cvI r) μ') (hR : xR X = { frames := 6, cells := 1, slots := 6, locals := 99 }) (hI : X.2.2.2.2.2.2.2.2.2.2.2.1.name = "chain")  (v4 : Option Nat) (μ : Mem) (h : B_P_chain_70  v4 μ = some (r, μ')) : WM X 6 70 [(4, vR v4)] [] 0 0 μ := by
  have h : (if v4 = none then B_P_chain_84 ((-1)) μ else b1 (gI μ v4 7 0) (fun x81 => B_P_chain_84 x81 μ)) = some (r, μ') := h
  refine wm_aload E dP_chain_70 (j := 0) rfl ?_
  refine wm_ifnonnull (tgt := 79) E dP_chain_72 (by decide) (fun c72 => ?_) (fun c72 => ?_)
  · have h := (if_neg c72).symm.trans h
    refine wm_aload E dP_chain_79 (j := 0) rfl ?_
    refine wm_gI E fd_P_270 h dP_chain_81 (fun x81 h => ?_)
    refine wm_pick (lv' := []) [] rfl ?_
    exact w_P_chain_84 E hQ hR hI x81 μ h
  · have h := (if_pos c72).symm.trans h
    refine wm_iconst (x := -1) E dP_chain_75 (by decide) ?_
    refine wm_goto (tgt := 84) E dP_chain_76 (by decide) ?_
    refine wm_pick (lv' := []) [] rfl ?_
    exact w_P_chain_84 E hQ hR hI ((-1)) μ h
def B_P_chain_45  : Nat → Int32 → Int32 → Option Nat → Int32 → Mem → Option ((Nat ⊕ Int32) × Mem)
  | 0, _, _, _, _, _ => none
  | n + 1, v2, v3, v4, v5, μ => if v3 < v5 then B_P_chain_70 v4 μ else if v4 = none then B_P_chain_70 v4 μ else b1 (rc μ v4 7) (fun _ => b1 (S_Pl_aboveOn v4 v2 μ) (fun x59 => (fun v2 v3 v4 v5 μ => B_P_chain_45 n v2 v3 v4 v5 μ) v2 v3 x59 (v5 + 1) μ))
set_option maxHeartbeats 4000000 in
set_option maxRecDepth 100000 in
theorem w_P_chain_45 {X : CX} (E : EV X prog_1_method_15_code 6 "PlaceFinder" (some .int)) {μ0 μ' : Mem} {r : (Nat ⊕ Int32)} (hQ : RQ2 X 1 6 μ0 (cvI r) μ') (hR : xR X = { frames := 6, cells := 1, slots := 6, locals := 99 }) (hI : X.2.2.2.2.2.2.2.2.2.2.2.1.name = "chain")  (n : Nat) : ∀ (v2 : Int32) (v3 : Int32) (v4 : Option Nat) (v5 : Int32) (μ : Mem) (h : B_P_chain_45  n v2 v3 v4 v5 μ = some (r, μ')), WM X 6 45 [(2, vI v2), (3, vI v3), (4, vR v4), (5, vI v5)] [] 0 0 μ := by
  induction n with
  | zero => intro v2 v3 v4 v5 μ h; cases h
  | succ n ih =>
    intro v2 v3 v4 v5 μ h
    have h : (if v3 < v5 then B_P_chain_70 v4 μ else if v4 = none then B_P_chain_70 v4 μ else b1 (rc μ v4 7) (fun _ => b1 (S_Pl_aboveOn v4 v2 μ) (fun x59 => (fun v2 v3 v4 v5 μ => B_P_chain_45 n v2 v3 v4 v5 μ) v2 v3 x59 (v5 + 1) μ))) = some (r, μ') := h
    refine wm_iload E dP_chain_45 (j := 3) rfl ?_
    refine wm_iload_n E dP_chain_47 rfl (j := 1) rfl ?_
    refine wm_icmp_gt (tgt := 70) E dP_chain_48 (by decide) (fun c48 => ?_) (fun c48 => ?_)
    · have h := (if_pos c48).symm.trans h
      refine wm_pick (lv' := [(4, vR v4)]) [2] rfl ?_
      exact w_P_chain_70 E hQ hR hI v4 μ h
    · have h := (if_neg c48).symm.trans h
      refine wm_aload E dP_chain_51 (j := 2) rfl ?_
      refine wm_ifnull (tgt := 70) E dP_chain_53 (by decide) (fun c53 => ?_) (fun c53 => ?_)
      · have h := (if_pos c53).symm.trans h
        refine wm_pick (lv' := [(4, vR v4)]) [2] rfl ?_
        exact w_P_chain_70 E hQ hR hI v4 μ h
      · have h := (if_neg c53).symm.trans h
        refine wm_aload E dP_chain_56 (j := 2) rfl ?_
        refine wm_iload_n E dP_chain_58 rfl (j := 0) rfl ?_
        obtain ⟨u59, hr59, h⟩ := b1S h
        obtain ⟨x59, hc59, h⟩ := b1S h
        refine wm_cV (ci := 7) (As := [vI v2]) (st := []) E lk_P_267 rfl im_Pl_aboveOn sl_Pl_aboveOn hr59 (C_Pl_aboveOn (xl X) X.1 v4 v2 μ _ hc59) rfl rfl (by rw [hR]; decide) (by rw [hR]; decide) (Nat.le_of_ble_eq_true rfl) dP_chain_59 ?_
        refine wm_astore (lv' := [(4, vR x59), (2, vI v2), (3, vI v3), (5, vI v5)]) E dP_chain_62 (by decide) rfl ?_
        refine wm_iinc (lv' := [(5, vI (v5 + 1)), (4, vR x59), (2, vI v2), (3, vI v3)]) (d := 1) E dP_chain_64 (by decide) (j := 3) rfl (by decide) rfl ?_
        refine wm_goto (tgt := 45) E dP_chain_67 (by decide) ?_
        refine wm_pick (lv' := [(2, vI v2), (3, vI v3), (4, vR x59), (5, vI (v5 + 1))]) [2, 3, 1, 0] rfl ?_
        exact ih v2 v3 x59 (v5 + 1) μ h
def S_P_chain (v0 : Option Nat) (v1 : Int32) (v2 : Int32) (v3 : Int32) (μ : Mem) : Option ((Nat ⊕ Int32) × Mem) := b1 (rc μ v0 11) (fun _ => b1 (S_P_placeOf v0 v1 μ) (fun x2 => if x2 = none then B_P_chain_23 μ else b1 (S_P_isDay v2 μ) (fun x13 => if x13 = 0 then B_P_chain_23 μ else if 0 ≤ v3 then if v3 < 30 then B_P_chain_45 fu v2 v3 x2 0 μ else some (.inr ((-1)), μ) else B_P_chain_23 μ)))
set_option maxHeartbeats 4000000 in
set_option maxRecDepth 100000 in
theorem w_P_chain_e {X : CX} (E : EV X prog_1_method_15_code 6 "PlaceFinder" (some .int)) {μ0 μ' : Mem} {r : (Nat ⊕ Int32)} (hQ : RQ2 X 1 6 μ0 (cvI r) μ') (hR : xR X = { frames := 6, cells := 1, slots := 6, locals := 99 }) (hI : X.2.2.2.2.2.2.2.2.2.2.2.1.name = "chain") (v0 : Option Nat) (v1 : Int32) (v2 : Int32) (v3 : Int32) (μ : Mem) (h : S_P_chain v0 v1 v2 v3 μ = some (r, μ')) : WM X 6 0 [(0, vR v0), (1, vI v1), (2, vI v2), (3, vI v3)] [] 0 0 μ := by
  have h : (b1 (rc μ v0 11) (fun _ => b1 (S_P_placeOf v0 v1 μ) (fun x2 => if x2 = none then B_P_chain_23 μ else b1 (S_P_isDay v2 μ) (fun x13 => if x13 = 0 then B_P_chain_23 μ else if 0 ≤ v3 then if v3 < 30 then B_P_chain_45 fu v2 v3 x2 0 μ else some (.inr ((-1)), μ) else B_P_chain_23 μ)))) = some (r, μ') := h
  refine wm_aload_n E dP_chain_0 rfl (j := 0) rfl ?_
  refine wm_iload_n E dP_chain_1 rfl (j := 1) rfl ?_
  obtain ⟨u2, hr2, h⟩ := b1S h
  obtain ⟨x2, hc2, h⟩ := b1S h
  refine wm_cV (ci := 11) (As := [vI v1]) (st := []) E lk_P_124 rfl im_P_placeOf sl_P_placeOf hr2 (C_P_placeOf (xl X) X.1 v0 v1 μ _ hc2) rfl rfl (by rw [hR]; decide) (by rw [hR]; decide) (Nat.le_of_ble_eq_true rfl) dP_chain_2 ?_
  refine wm_astore (lv' := [(4, vR x2), (0, vR v0), (1, vI v1), (2, vI v2), (3, vI v3)]) E dP_chain_5 (by decide) rfl ?_
  refine wm_aload E dP_chain_7 (j := 0) rfl ?_
  refine wm_ifnull (tgt := 23) E dP_chain_9 (by decide) (fun c9 => ?_) (fun c9 => ?_)
  · have h := (if_pos c9).symm.trans h
    refine wm_pick (lv' := []) [] rfl ?_
    exact w_P_chain_23 E hQ hR hI μ h
  · have h := (if_neg c9).symm.trans h
    refine wm_iload_n E dP_chain_12 rfl (j := 3) rfl ?_
    obtain ⟨x13, hc13, h⟩ := b1S h
    refine wm_cS (As := [vI v2]) (st := []) E lk_P_128 sc_P_isDay (C_P_isDay (xl X) X.1 v2 μ _ hc13) rfl rfl (by rw [hR]; decide) (by rw [hR]; decide) (Nat.le_of_ble_eq_true rfl) dP_chain_13 ?_
    refine wm_if_eq (tgt := 23) E dP_chain_16 (by decide) (fun c16 => ?_) (fun c16 => ?_)
    · have h := (if_pos c16).symm.trans h
      refine wm_pick (lv' := []) [] rfl ?_
      exact w_P_chain_23 E hQ hR hI μ h
    · have h := (if_neg c16).symm.trans h
      refine wm_iload_n E dP_chain_19 rfl (j := 4) rfl ?_
      refine wm_if_ge (tgt := 34) E dP_chain_20 (by decide) (fun c20 => ?_) (fun c20 => ?_)
      · have h := (if_pos c20).symm.trans h
        refine wm_iload_n E dP_chain_34 rfl (j := 4) rfl ?_
        refine wm_bipush (x := 30) E dP_chain_35 (by decide) ?_
        refine wm_icmp_lt (tgt := 42) E dP_chain_37 (by decide) (fun c37 => ?_) (fun c37 => ?_)
        · have h := (if_pos c37).symm.trans h
          refine wm_iconst (x := 0) E dP_chain_42 (by decide) ?_
          refine wm_istore (lv' := [(5, vI 0), (4, vR x2), (0, vR v0), (1, vI v1), (2, vI v2), (3, vI v3)]) E dP_chain_43 (by decide) rfl ?_
          refine wm_pick (lv' := [(2, vI v2), (3, vI v3), (4, vR x2), (5, vI 0)]) [4, 5, 1, 0] rfl ?_
          exact w_P_chain_45 E hQ hR hI fu v2 v3 x2 0 μ h
        · have h := (if_neg c37).symm.trans h
          refine wm_iconst (x := -1) E dP_chain_40 (by decide) ?_
          exact wm_iret (rt := .int) E (rqI hQ h) rfl rfl (by decide) (by decide) dP_chain_41
      · have h := (if_neg c20).symm.trans h
        refine wm_pick (lv' := []) [] rfl ?_
        exact w_P_chain_23 E hQ hR hI μ h
theorem C_P_chain (l : Launch) (G : GG) (v0 : Option Nat) (v1 : Int32) (v2 : Int32) (v3 : Int32) (μ μ' : Mem) (r : Int32) (h : S_P_chain v0 v1 v2 v3 μ = some (.inr r, μ')) : CT l G y_P_chain prog_1_method_15_code 6 (some .int) 6 1 6 99 μ [vR v0, vI v1, vI v2, vI v3] (some (vI r)) μ' := by
  refine wm_met (lv := [(0, vR v0), (1, vI v1), (2, vI v2), (3, vI v3)]) (by decide +kernel) (Nat.le_of_ble_eq_true rfl) rfl (fun X E hQ hR hI => ?_)
  exact w_P_chain_e (r := .inr r) E hQ hR hI v0 v1 v2 v3 μ h
theorem X_P_chain (l : Launch) (hl : LF l) (G : GG) (v0 : Option Nat) (v1 : Int32) (v2 : Int32) (v3 : Int32) (μ μ' : Mem) (k : Nat) (h : S_P_chain v0 v1 v2 v3 (m_up μ) = some (.inl k, μ')) : CZ l G y_P_chain prog_1_method_15_code 6 (some .int) 6 1 6 99 μ [vR v0, vI v1, vI v2, vI v3] (exN k) := by
  refine wm_metX hl (lv := [(0, vR v0), (1, vI v1), (2, vI v2), (3, vI v3)]) (by decide +kernel) (Nat.le_of_ble_eq_true rfl) rfl (fun X E hX hR hI => ?_)
  exact w_P_chain_e (μ0 := μ) (r := .inl k) E ⟨μ, hX⟩ hR hI v0 v1 v2 v3 (m_up μ) h
def B_P_holds_28   (μ : Mem) : Option ((Nat ⊕ Int32) × Mem) := some (.inl 0, μ)
set_option maxHeartbeats 4000000 in
set_option maxRecDepth 100000 in
theorem w_P_holds_28 {X : CX} (E : EV X prog_1_method_16_code 7 "PlaceFinder" (some .int)) {μ0 μ' : Mem} {r : (Nat ⊕ Int32)} (hQ : RQ2 X 1 6 μ0 (cvI r) μ') (hR : xR X = { frames := 6, cells := 1, slots := 6, locals := 99 }) (hI : X.2.2.2.2.2.2.2.2.2.2.2.1.name = "holds")   (μ : Mem) (h : B_P_holds_28   μ = some (r, μ')) : WM X 7 28 [] [] 0 0 μ := by
  have h : (some (.inl 0, μ)) = some (r, μ') := h
  obtain ⟨μs, hX⟩ := rqXI hQ h
  exact wm_throw (ln := 3) (names := exU) (cls := "java/lang/IllegalArgumentException") E tf_P_91_273 hX ⟨(by rw [hR]; decide), by decide⟩ ⟨(by rw [hR]; decide), by decide⟩ (by rw [hR]; decide) (by rw [hR]; decide) (Nat.le_of_ble_eq_true rfl) dP_holds_28 dP_holds_31 (Or.inr ⟨rfl, dP_holds_32⟩) dP_holds_35 dP_holds_38
def B_P_holds_61   (μ : Mem) : Option ((Nat ⊕ Int32) × Mem) := some (.inr ((-1)), μ)
set_option maxHeartbeats 4000000 in
set_option maxRecDepth 100000 in
theorem w_P_holds_61 {X : CX} (E : EV X prog_1_method_16_code 7 "PlaceFinder" (some .int)) {μ0 μ' : Mem} {r : (Nat ⊕ Int32)} (hQ : RQ2 X 1 6 μ0 (cvI r) μ') (hR : xR X = { frames := 6, cells := 1, slots := 6, locals := 99 }) (hI : X.2.2.2.2.2.2.2.2.2.2.2.1.name = "holds")   (μ : Mem) (h : B_P_holds_61   μ = some (r, μ')) : WM X 7 61 [] [] 0 0 μ := by
  have h : (some (.inr ((-1)), μ)) = some (r, μ') := h
  refine wm_iconst (x := -1) E dP_holds_61 (by decide) ?_
  exact wm_iret (rt := .int) E (rqI hQ h) rfl rfl (by decide) (by decide) dP_holds_62
def B_P_holds_78  (s0 : Int32) (μ : Mem) : Option ((Nat ⊕ Int32) × Mem) := some (.inr s0, μ)
set_option maxHeartbeats 4000000 in
set_option maxRecDepth 100000 in
theorem w_P_holds_78 {X : CX} (E : EV X prog_1_method_16_code 7 "PlaceFinder" (some .int)) {μ0 μ' : Mem} {r : (Nat ⊕ Int32)} (hQ : RQ2 X 1 6 μ0 (cvI r) μ') (hR : xR X = { frames := 6, cells := 1, slots := 6, locals := 99 }) (hI : X.2.2.2.2.2.2.2.2.2.2.2.1.name = "holds")  (s0 : Int32) (μ : Mem) (h : B_P_holds_78  s0 μ = some (r, μ')) : WM X 7 78 [] [vI s0] 0 0 μ := by
  have h : (some (.inr s0, μ)) = some (r, μ') := h
  exact wm_iret (rt := .int) E (rqI hQ h) rfl rfl (by decide) (by decide) dP_holds_78
def S_P_holds (v0 : Option Nat) (v1 : Int32) (v2 : Int32) (v3 : Int32) (v4 : Int32) (μ : Mem) : Option ((Nat ⊕ Int32) × Mem) := b1 (rc μ v0 11) (fun _ => b1 (S_P_placeOf v0 v1 μ) (fun x2 => if x2 = none then B_P_holds_28 μ else b1 (S_P_arePosition v2 v3 μ) (fun x14 => if x14 = 0 then B_P_holds_28 μ else b1 (S_P_isDay v4 μ) (fun x22 => if x22 = 0 then B_P_holds_28 μ else b1 (rc μ x2 7) (fun _ => b1 (S_Pl_shapeOn x2 v4 μ) (fun x43 => if x43 = none then B_P_holds_61 μ else b1 (rc μ x43 2) (fun _ => b1 (S_Co_isPoint x43 μ) (fun x55 => if x55 = 0 then b1 (rc μ x43 2) (fun _ => b1 (S_Co_hasInside x43 v2 v3 μ) (fun x67 => if x67 = 0 then B_P_holds_78 0 μ else B_P_holds_78 1 μ)) else B_P_holds_61 μ))))))))
set_option maxHeartbeats 4000000 in
set_option maxRecDepth 100000 in
theorem w_P_holds_e {X : CX} (E : EV X prog_1_method_16_code 7 "PlaceFinder" (some .int)) {μ0 μ' : Mem} {r : (Nat ⊕ Int32)} (hQ : RQ2 X 1 6 μ0 (cvI r) μ') (hR : xR X = { frames := 6, cells := 1, slots := 6, locals := 99 }) (hI : X.2.2.2.2.2.2.2.2.2.2.2.1.name = "holds") (v0 : Option Nat) (v1 : Int32) (v2 : Int32) (v3 : Int32) (v4 : Int32) (μ : Mem) (h : S_P_holds v0 v1 v2 v3 v4 μ = some (r, μ')) : WM X 7 0 [(0, vR v0), (1, vI v1), (2, vI v2), (3, vI v3), (4, vI v4)] [] 0 0 μ := by
  have h : (b1 (rc μ v0 11) (fun _ => b1 (S_P_placeOf v0 v1 μ) (fun x2 => if x2 = none then B_P_holds_28 μ else b1 (S_P_arePosition v2 v3 μ) (fun x14 => if x14 = 0 then B_P_holds_28 μ else b1 (S_P_isDay v4 μ) (fun x22 => if x22 = 0 then B_P_holds_28 μ else b1 (rc μ x2 7) (fun _ => b1 (S_Pl_shapeOn x2 v4 μ) (fun x43 => if x43 = none then B_P_holds_61 μ else b1 (rc μ x43 2) (fun _ => b1 (S_Co_isPoint x43 μ) (fun x55 => if x55 = 0 then b1 (rc μ x43 2) (fun _ => b1 (S_Co_hasInside x43 v2 v3 μ) (fun x67 => if x67 = 0 then B_P_holds_78 0 μ else B_P_holds_78 1 μ)) else B_P_holds_61 μ))))))))) = some (r, μ') := h
  refine wm_aload_n E dP_holds_0 rfl (j := 0) rfl ?_
  refine wm_iload_n E dP_holds_1 rfl (j := 1) rfl ?_
  obtain ⟨u2, hr2, h⟩ := b1S h
  obtain ⟨x2, hc2, h⟩ := b1S h
  refine wm_cV (ci := 11) (As := [vI v1]) (st := []) E lk_P_124 rfl im_P_placeOf sl_P_placeOf hr2 (C_P_placeOf (xl X) X.1 v0 v1 μ _ hc2) rfl rfl (by rw [hR]; decide) (by rw [hR]; decide) (Nat.le_of_ble_eq_true rfl) dP_holds_2 ?_
  refine wm_astore (lv' := [(5, vR x2), (0, vR v0), (1, vI v1), (2, vI v2), (3, vI v3), (4, vI v4)]) E dP_holds_5 (by decide) rfl ?_
  refine wm_aload E dP_holds_7 (j := 0) rfl ?_
  refine wm_ifnull (tgt := 28) E dP_holds_9 (by decide) (fun c9 => ?_) (fun c9 => ?_)
  · have h := (if_pos c9).symm.trans h
    refine wm_pick (lv' := []) [] rfl ?_
    exact w_P_holds_28 E hQ hR hI μ h
  · have h := (if_neg c9).symm.trans h
    refine wm_iload_n E dP_holds_12 rfl (j := 3) rfl ?_
    refine wm_iload_n E dP_holds_13 rfl (j := 4) rfl ?_
    obtain ⟨x14, hc14, h⟩ := b1S h
    refine wm_cS (As := [vI v2, vI v3]) (st := []) E lk_P_116 sc_P_arePosition (C_P_arePosition (xl X) X.1 v2 v3 μ _ hc14) rfl rfl (by rw [hR]; decide) (by rw [hR]; decide) (Nat.le_of_ble_eq_true rfl) dP_holds_14 ?_
    refine wm_if_eq (tgt := 28) E dP_holds_17 (by decide) (fun c17 => ?_) (fun c17 => ?_)
    · have h := (if_pos c17).symm.trans h
      refine wm_pick (lv' := []) [] rfl ?_
      exact w_P_holds_28 E hQ hR hI μ h
    · have h := (if_neg c17).symm.trans h
      refine wm_iload E dP_holds_20 (j := 5) rfl ?_
      obtain ⟨x22, hc22, h⟩ := b1S h
      refine wm_cS (As := [vI v4]) (st := []) E lk_P_128 sc_P_isDay (C_P_isDay (xl X) X.1 v4 μ _ hc22) rfl rfl (by rw [hR]; decide) (by rw [hR]; decide) (Nat.le_of_ble_eq_true rfl) dP_holds_22 ?_
      refine wm_if_ne (tgt := 39) E dP_holds_25 (by decide) (fun c25 => ?_) (fun c25 => ?_)
      · have h := (if_neg c25).symm.trans h
        refine wm_aload E dP_holds_39 (j := 0) rfl ?_
        refine wm_iload E dP_holds_41 (j := 5) rfl ?_
        obtain ⟨u43, hr43, h⟩ := b1S h
        obtain ⟨x43, hc43, h⟩ := b1S h
        refine wm_cV (ci := 7) (As := [vI v4]) (st := []) E lk_P_275 rfl im_Pl_shapeOn sl_Pl_shapeOn hr43 (C_Pl_shapeOn (xl X) X.1 x2 v4 μ _ hc43) rfl rfl (by rw [hR]; decide) (by rw [hR]; decide) (Nat.le_of_ble_eq_true rfl) dP_holds_43 ?_
        refine wm_astore (lv' := [(6, vR x43), (5, vR x2), (0, vR v0), (1, vI v1), (2, vI v2), (3, vI v3), (4, vI v4)]) E dP_holds_46 (by decide) rfl ?_
        refine wm_aload E dP_holds_48 (j := 0) rfl ?_
        refine wm_ifnull (tgt := 61) E dP_holds_50 (by decide) (fun c50 => ?_) (fun c50 => ?_)
        · have h := (if_pos c50).symm.trans h
          refine wm_pick (lv' := []) [] rfl ?_
          exact w_P_holds_61 E hQ hR hI μ h
        · have h := (if_neg c50).symm.trans h
          refine wm_aload E dP_holds_53 (j := 0) rfl ?_
          obtain ⟨u55, hr55, h⟩ := b1S h
          obtain ⟨x55, hc55, h⟩ := b1S h
          refine wm_cV (ci := 2) (As := []) (st := []) E lk_P_133 rfl im_Co_isPoint sl_Co_isPoint hr55 (C_Co_isPoint (xl X) X.1 x43 μ _ hc55) rfl rfl (by rw [hR]; decide) (by rw [hR]; decide) (Nat.le_of_ble_eq_true rfl) dP_holds_55 ?_
          refine wm_if_eq (tgt := 63) E dP_holds_58 (by decide) (fun c58 => ?_) (fun c58 => ?_)
          · have h := (if_pos c58).symm.trans h
            refine wm_aload E dP_holds_63 (j := 0) rfl ?_
            refine wm_iload_n E dP_holds_65 rfl (j := 4) rfl ?_
            refine wm_iload_n E dP_holds_66 rfl (j := 5) rfl ?_
            obtain ⟨u67, hr67, h⟩ := b1S h
            obtain ⟨x67, hc67, h⟩ := b1S h
            refine wm_cV (ci := 2) (As := [vI v2, vI v3]) (st := []) E lk_P_279 rfl im_Co_hasInside sl_Co_hasInside hr67 (C_Co_hasInside (xl X) X.1 x43 v2 v3 μ _ hc67) rfl rfl (by rw [hR]; decide) (by rw [hR]; decide) (Nat.le_of_ble_eq_true rfl) dP_holds_67 ?_
            refine wm_if_eq (tgt := 77) E dP_holds_70 (by decide) (fun c70 => ?_) (fun c70 => ?_)
            · have h := (if_pos c70).symm.trans h
              refine wm_iconst (x := 0) E dP_holds_77 (by decide) ?_
              refine wm_pick (lv' := []) [] rfl ?_
              exact w_P_holds_78 E hQ hR hI 0 μ h
            · have h := (if_neg c70).symm.trans h
              refine wm_iconst (x := 1) E dP_holds_73 (by decide) ?_
              refine wm_goto (tgt := 78) E dP_holds_74 (by decide) ?_
              refine wm_pick (lv' := []) [] rfl ?_
              exact w_P_holds_78 E hQ hR hI 1 μ h
          · have h := (if_neg c58).symm.trans h
            refine wm_pick (lv' := []) [] rfl ?_
            exact w_P_holds_61 E hQ hR hI μ h
      · have h := (if_pos c25).symm.trans h
        refine wm_pick (lv' := []) [] rfl ?_
        exact w_P_holds_28 E hQ hR hI μ h
theorem C_P_holds (l : Launch) (G : GG) (v0 : Option Nat) (v1 : Int32) (v2 : Int32) (v3 : Int32) (v4 : Int32) (μ μ' : Mem) (r : Int32) (h : S_P_holds v0 v1 v2 v3 v4 μ = some (.inr r, μ')) : CT l G y_P_holds prog_1_method_16_code 7 (some .int) 6 1 6 99 μ [vR v0, vI v1, vI v2, vI v3, vI v4] (some (vI r)) μ' := by
  refine wm_met (lv := [(0, vR v0), (1, vI v1), (2, vI v2), (3, vI v3), (4, vI v4)]) (by decide +kernel) (Nat.le_of_ble_eq_true rfl) rfl (fun X E hQ hR hI => ?_)
  exact w_P_holds_e (r := .inr r) E hQ hR hI v0 v1 v2 v3 v4 μ h
theorem X_P_holds (l : Launch) (hl : LF l) (G : GG) (v0 : Option Nat) (v1 : Int32) (v2 : Int32) (v3 : Int32) (v4 : Int32) (μ μ' : Mem) (k : Nat) (h : S_P_holds v0 v1 v2 v3 v4 (m_up μ) = some (.inl k, μ')) : CZ l G y_P_holds prog_1_method_16_code 7 (some .int) 6 1 6 99 μ [vR v0, vI v1, vI v2, vI v3, vI v4] (exN k) := by
  refine wm_metX hl (lv := [(0, vR v0), (1, vI v1), (2, vI v2), (3, vI v3), (4, vI v4)]) (by decide +kernel) (Nat.le_of_ble_eq_true rfl) rfl (fun X E hX hR hI => ?_)
  exact w_P_holds_e (μ0 := μ) (r := .inl k) E ⟨μ, hX⟩ hR hI v0 v1 v2 v3 v4 (m_up μ) h
def S_P_sound (v0 : Option Nat) (μ : Mem) : Option (Int32 × Mem) := b2 (nO μ 10 [.null, .int 0]) (fun x0 m0 => b1 (gR m0 v0 11 5) (fun x5 => b1 (gI m0 v0 11 6) (fun x9 => b1 (rc m0 x0 10) (fun _ => b2 (S_Wo_init x0 x5 x9 m0) (fun x12 m12 => b1 (rc m12 x0 10) (fun _ => b1 (S_Wo_soundCode x0 m12) (fun x15 => some (x15, m12))))))))
set_option maxHeartbeats 4000000 in
set_option maxRecDepth 100000 in
theorem C_P_sound (l : Launch) (G : GG) (v0 : Option Nat) (μ μ' : Mem) (r : Int32) (h : S_P_sound v0 μ = some (r, μ')) : CT l G y_P_sound prog_1_method_17_code 1 (some .int) 6 2 12 130 μ [vR v0] (some (vI r)) μ' := by
  refine wm_met (lv := [(0, vR v0)]) (by decide +kernel) (Nat.le_of_ble_eq_true rfl) rfl (fun X E hQ hR hI => ?_)
  have h : (b2 (nO μ 10 [.null, .int 0]) (fun x0 m0 => b1 (gR m0 v0 11 5) (fun x5 => b1 (gI m0 v0 11 6) (fun x9 => b1 (rc m0 x0 10) (fun _ => b2 (S_Wo_init x0 x5 x9 m0) (fun x12 m12 => b1 (rc m12 x0 10) (fun _ => b1 (S_Wo_soundCode x0 m12) (fun x15 => some (x15, m12))))))))) = some (r, μ') := h
  refine wm_new E nd_P_75 h (by rw [hR]; decide) (by rw [hR]; decide) dP_sound_0 (fun x0 m0 h => ?_)
  refine wm_dup E dP_sound_3 rfl ?_
  refine wm_aload_n E dP_sound_4 rfl (j := 0) rfl ?_
  refine wm_gR E fd_P_36 h dP_sound_5 (fun x5 h => ?_)
  refine wm_aload_n E dP_sound_8 rfl (j := 0) rfl ?_
  refine wm_gI E fd_P_40 h dP_sound_9 (fun x9 h => ?_)
  obtain ⟨u12, hr12, h⟩ := b1S h
  obtain ⟨x12, m12, hc12, h⟩ := b2S h
  refine wm_cI (ci := 10) (As := [vR x5, vI x9]) (st := [vR x0]) E lk_P_77 rfl rfl im_Wo_init hr12 (C_Wo_init (xl X) X.1 x0 x5 x9 m0 _ _ hc12) rfl rfl (by rw [hR]; decide) (by rw [hR]; decide) (Nat.le_of_ble_eq_true rfl) dP_sound_12 ?_
  obtain ⟨u15, hr15, h⟩ := b1S h
  obtain ⟨x15, hc15, h⟩ := b1S h
  refine wm_cV (ci := 10) (As := []) (st := []) E lk_P_282 rfl im_Wo_soundCode sl_Wo_soundCode hr15 (C_Wo_soundCode (xl X) X.1 x0 m12 _ hc15) rfl rfl (by rw [hR]; decide) (by rw [hR]; decide) (Nat.le_of_ble_eq_true rfl) dP_sound_15 ?_
  exact wm_iret (rt := .int) E hQ (rtI h) (rtM h) (by decide) (by decide) dP_sound_18
def B_P_errors_32   (μ : Mem) : Option ((Nat ⊕ Int32) × Mem) := some (.inl 4, μ)
set_option maxHeartbeats 4000000 in
set_option maxRecDepth 100000 in
theorem w_P_errors_32 {X : CX} (E : EV X prog_1_method_18_code 4 "PlaceFinder" (some .int)) {μ0 μ' : Mem} {r : (Nat ⊕ Int32)} (hQ : RQ2 X 2 12 μ0 (cvI r) μ') (hR : xR X = { frames := 6, cells := 2, slots := 12, locals := 99 }) (hI : X.2.2.2.2.2.2.2.2.2.2.2.1.name = "errors")   (μ : Mem) (h : B_P_errors_32   μ = some (r, μ')) : WM X 4 32 [] [] 0 0 μ := by
  have h : (some (.inl 4, μ)) = some (r, μ') := h
  obtain ⟨μs, hX⟩ := rqXI hQ h
  exact wm_throw13 (ln := 3) (names := ["java/lang/Exception"]) (cls := "java/util/NoSuchElementException") E tf_P_285_287 hX ⟨(by rw [hR]; decide), by decide⟩ ⟨(by rw [hR]; decide), by decide⟩ (by rw [hR]; decide) (by rw [hR]; decide) (Nat.le_of_ble_eq_true rfl) dP_errors_32 dP_errors_35 (Or.inr ⟨rfl, dP_errors_36⟩) dP_errors_39 dP_errors_42
def S_P_errors (v0 : Option Nat) (v1 : Int32) (v2 : Int32) (μ : Mem) : Option ((Nat ⊕ Int32) × Mem) := b1 (rc μ v0 11) (fun _ => b1 (S_P_placeOf v0 v1 μ) (fun x2 => if x2 = none then B_P_errors_32 μ else if v2 < 0 then B_P_errors_32 μ else b1 (gR μ x2 7 5) (fun x16 => b1 (rc μ x16 0) (fun _ => b1 (S_Al_size x16 μ) (fun x19 => if x19 ≤ v2 then B_P_errors_32 μ else b1 (gI μ v0 11 6) (fun x26 => if x26 = 0 then B_P_errors_32 μ else b1 (gR μ v0 11 10) (fun x44 => b2 (nO μ 10 [.null, .int 0]) (fun x47 m47 => b1 (gR m47 v0 11 5) (fun x52 => b1 (gI m47 v0 11 6) (fun x56 => b1 (rc m47 x47 10) (fun _ => b2 (S_Wo_init x47 x52 x56 m47) (fun x59 m59 => b1 (gR m59 x2 7 5) (fun x63 => b1 (rc m59 x63 0) (fun _ => b1 (S_Al_get x63 v2 m59) (fun x67 => b1 (cK m59 x67 6) (fun _ => b1 (gR m59 x67 6 0) (fun x73 => b1 (rc m59 x44 3) (fun _ => b2 (S_Ec_count x44 x47 x73 m59) (fun x76 m76 => some (.inr x76, m76))))))))))))))))))))
set_option maxHeartbeats 4000000 in
set_option maxRecDepth 100000 in
theorem w_P_errors_e {X : CX} (E : EV X prog_1_method_18_code 4 "PlaceFinder" (some .int)) {μ0 μ' : Mem} {r : (Nat ⊕ Int32)} (hQ : RQ2 X 2 12 μ0 (cvI r) μ') (hR : xR X = { frames := 6, cells := 2, slots := 12, locals := 99 }) (hI : X.2.2.2.2.2.2.2.2.2.2.2.1.name = "errors") (v0 : Option Nat) (v1 : Int32) (v2 : Int32) (μ : Mem) (h : S_P_errors v0 v1 v2 μ = some (r, μ')) : WM X 4 0 [(0, vR v0), (1, vI v1), (2, vI v2)] [] 0 0 μ := by
  have h : (b1 (rc μ v0 11) (fun _ => b1 (S_P_placeOf v0 v1 μ) (fun x2 => if x2 = none then B_P_errors_32 μ else if v2 < 0 then B_P_errors_32 μ else b1 (gR μ x2 7 5) (fun x16 => b1 (rc μ x16 0) (fun _ => b1 (S_Al_size x16 μ) (fun x19 => if x19 ≤ v2 then B_P_errors_32 μ else b1 (gI μ v0 11 6) (fun x26 => if x26 = 0 then B_P_errors_32 μ else b1 (gR μ v0 11 10) (fun x44 => b2 (nO μ 10 [.null, .int 0]) (fun x47 m47 => b1 (gR m47 v0 11 5) (fun x52 => b1 (gI m47 v0 11 6) (fun x56 => b1 (rc m47 x47 10) (fun _ => b2 (S_Wo_init x47 x52 x56 m47) (fun x59 m59 => b1 (gR m59 x2 7 5) (fun x63 => b1 (rc m59 x63 0) (fun _ => b1 (S_Al_get x63 v2 m59) (fun x67 => b1 (cK m59 x67 6) (fun _ => b1 (gR m59 x67 6 0) (fun x73 => b1 (rc m59 x44 3) (fun _ => b2 (S_Ec_count x44 x47 x73 m59) (fun x76 m76 => some (.inr x76, m76))))))))))))))))))))) = some (r, μ') := h
  refine wm_aload_n E dP_errors_0 rfl (j := 0) rfl ?_
  refine wm_iload_n E dP_errors_1 rfl (j := 1) rfl ?_
  obtain ⟨u2, hr2, h⟩ := b1S h
  obtain ⟨x2, hc2, h⟩ := b1S h
  refine wm_cV (ci := 11) (As := [vI v1]) (st := []) E lk_P_124 rfl im_P_placeOf sl_P_placeOf hr2 (C_P_placeOf (xl X) X.1 v0 v1 μ _ hc2) rfl rfl (by rw [hR]; decide) (by rw [hR]; decide) (Nat.le_of_ble_eq_true rfl) dP_errors_2 ?_
  refine wm_astore_n (lv' := [(3, vR x2), (0, vR v0), (1, vI v1), (2, vI v2)]) E dP_errors_5 rfl (by decide) rfl ?_
  refine wm_aload_n E dP_errors_6 rfl (j := 0) rfl ?_
  refine wm_ifnull (tgt := 32) E dP_errors_7 (by decide) (fun c7 => ?_) (fun c7 => ?_)
  · have h := (if_pos c7).symm.trans h
    refine wm_pick (lv' := []) [] rfl ?_
    exact w_P_errors_32 E hQ hR hI μ h
  · have h := (if_neg c7).symm.trans h
    refine wm_iload_n E dP_errors_10 rfl (j := 3) rfl ?_
    refine wm_if_lt (tgt := 32) E dP_errors_11 (by decide) (fun c11 => ?_) (fun c11 => ?_)
    · have h := (if_pos c11).symm.trans h
      refine wm_pick (lv' := []) [] rfl ?_
      exact w_P_errors_32 E hQ hR hI μ h
    · have h := (if_neg c11).symm.trans h
      refine wm_iload_n E dP_errors_14 rfl (j := 3) rfl ?_
      refine wm_aload_n E dP_errors_15 rfl (j := 0) rfl ?_
      refine wm_gR E fd_P_156 h dP_errors_16 (fun x16 h => ?_)
      obtain ⟨u19, hr19, h⟩ := b1S h
      obtain ⟨x19, hc19, h⟩ := b1S h
      refine wm_cV (ci := 0) (As := []) (st := [vI v2]) E lk_P_98 rfl im_Al_size sl_Al_size hr19 (C_Al_size (xl X) X.1 x16 μ _ hc19) rfl rfl (by rw [hR]; decide) (by rw [hR]; decide) (Nat.le_of_ble_eq_true rfl) dP_errors_19 ?_
      refine wm_icmp_ge (tgt := 32) E dP_errors_22 (by decide) (fun c22 => ?_) (fun c22 => ?_)
      · have h := (if_pos c22).symm.trans h
        refine wm_pick (lv' := []) [] rfl ?_
        exact w_P_errors_32 E hQ hR hI μ h
      · have h := (if_neg c22).symm.trans h
        refine wm_aload_n E dP_errors_25 rfl (j := 1) rfl ?_
        refine wm_gI E fd_P_40 h dP_errors_26 (fun x26 h => ?_)
        refine wm_if_ne (tgt := 43) E dP_errors_29 (by decide) (fun c29 => ?_) (fun c29 => ?_)
        · have h := (if_neg c29).symm.trans h
          refine wm_aload_n E dP_errors_43 rfl (j := 1) rfl ?_
          refine wm_gR E fd_P_62 h dP_errors_44 (fun x44 h => ?_)
          refine wm_new E nd_P_75 h (by rw [hR]; decide) (by rw [hR]; decide) dP_errors_47 (fun x47 m47 h => ?_)
          refine wm_dup E dP_errors_50 rfl ?_
          refine wm_aload_n E dP_errors_51 rfl (j := 1) rfl ?_
          refine wm_gR E fd_P_36 h dP_errors_52 (fun x52 h => ?_)
          refine wm_aload_n E dP_errors_55 rfl (j := 1) rfl ?_
          refine wm_gI E fd_P_40 h dP_errors_56 (fun x56 h => ?_)
          obtain ⟨u59, hr59, h⟩ := b1S h
          obtain ⟨x59, m59, hc59, h⟩ := b2S h
          refine wm_cI (ci := 10) (As := [vR x52, vI x56]) (st := [vR x47, vR x44]) E lk_P_77 rfl rfl im_Wo_init hr59 (C_Wo_init (xl X) X.1 x47 x52 x56 m47 _ _ hc59) rfl rfl (by rw [hR]; decide) (by rw [hR]; decide) (Nat.le_of_ble_eq_true rfl) dP_errors_59 ?_
          refine wm_aload_n E dP_errors_62 rfl (j := 0) rfl ?_
          refine wm_gR E fd_P_156 h dP_errors_63 (fun x63 h => ?_)
          refine wm_iload_n E dP_errors_66 rfl (j := 3) rfl ?_
          obtain ⟨u67, hr67, h⟩ := b1S h
          obtain ⟨x67, hc67, h⟩ := b1S h
          refine wm_cV (ci := 0) (As := [vI v2]) (st := [vR x47, vR x44]) E lk_P_223 rfl im_Al_get sl_Al_get hr67 (C_Al_get (xl X) X.1 x63 v2 m59 _ hc67) rfl rfl (by rw [hR]; decide) (by rw [hR]; decide) (Nat.le_of_ble_eq_true rfl) dP_errors_67 ?_
          refine wm_ckc (ci := 6) E rfl cl_P_161 h dP_errors_70 (fun h => ?_)
          refine wm_gR E fd_P_290 h dP_errors_73 (fun x73 h => ?_)
          obtain ⟨u76, hr76, h⟩ := b1S h
          obtain ⟨x76, m76, hc76, h⟩ := b2S h
          refine wm_cV (ci := 3) (As := [vR x47, vR x73]) (st := []) E lk_P_294 rfl im_Ec_count sl_Ec_count hr76 (C_Ec_count (xl X) X.1 x44 x47 x73 m59 _ _ hc76) rfl rfl (by rw [hR]; decide) (by rw [hR]; decide) (Nat.le_of_ble_eq_true rfl) dP_errors_76 ?_
          exact wm_iret (rt := .int) E (rqI hQ h) rfl rfl (by decide) (by decide) dP_errors_79
        · have h := (if_pos c29).symm.trans h
          refine wm_pick (lv' := []) [] rfl ?_
          exact w_P_errors_32 E hQ hR hI μ h
theorem C_P_errors (l : Launch) (G : GG) (v0 : Option Nat) (v1 : Int32) (v2 : Int32) (μ μ' : Mem) (r : Int32) (h : S_P_errors v0 v1 v2 μ = some (.inr r, μ')) : CT l G y_P_errors prog_1_method_18_code 4 (some .int) 6 2 12 99 μ [vR v0, vI v1, vI v2] (some (vI r)) μ' := by
  refine wm_met (lv := [(0, vR v0), (1, vI v1), (2, vI v2)]) (by decide +kernel) (Nat.le_of_ble_eq_true rfl) rfl (fun X E hQ hR hI => ?_)
  exact w_P_errors_e (r := .inr r) E hQ hR hI v0 v1 v2 μ h
theorem X_P_errors (l : Launch) (hl : LF l) (G : GG) (v0 : Option Nat) (v1 : Int32) (v2 : Int32) (μ μ' : Mem) (k : Nat) (h : S_P_errors v0 v1 v2 (m_up μ) = some (.inl k, μ')) : CZ l G y_P_errors prog_1_method_18_code 4 (some .int) 6 2 12 99 μ [vR v0, vI v1, vI v2] (exN k) := by
  refine wm_metX hl (lv := [(0, vR v0), (1, vI v1), (2, vI v2)]) (by decide +kernel) (Nat.le_of_ble_eq_true rfl) rfl (fun X E hX hR hI => ?_)
  exact w_P_errors_e (μ0 := μ) (r := .inl k) E ⟨μ, hX⟩ hR hI v0 v1 v2 (m_up μ) h
def S_Wa_init (v0 : Option Nat) (v1 : Option Nat) (v2 : Int32) (μ : Mem) : Option (Unit × Mem) := b1 (rc μ v0 9) (fun _ => b2 (nO μ 0 [.null, .int 0, .int 0]) (fun x5 m5 => b1 (rc m5 x5 0) (fun _ => b2 (S_Al_init x5 m5) (fun x9 m9 => b1 (pV m9 v0 9 0 (vR x5)) (fun m12 => b1 (pV m12 v0 9 3 (vI 0)) (fun m17 => b1 (pV m17 v0 9 1 (vR v1)) (fun m22 => b1 (pV m22 v0 9 2 (vI v2)) (fun m27 => some ((), m27)))))))))
set_option maxHeartbeats 4000000 in
set_option maxRecDepth 100000 in
theorem C_Wa_init (l : Launch) (G : GG) (v0 : Option Nat) (v1 : Option Nat) (v2 : Int32) (μ μ' : Mem) (r : Unit) (h : S_Wa_init v0 v1 v2 μ = some (r, μ')) : CT l G y_Wa_init prog_10_method_1_code 3 none 4 1 3 120 μ [vR v0, vR v1, vI v2] none μ' := by
  refine wm_met (lv := [(0, vR v0), (1, vR v1), (2, vI v2)]) (by decide +kernel) (Nat.le_of_ble_eq_true rfl) rfl (fun X E hQ hR hI => ?_)
  have h : (b1 (rc μ v0 9) (fun _ => b2 (nO μ 0 [.null, .int 0, .int 0]) (fun x5 m5 => b1 (rc m5 x5 0) (fun _ => b2 (S_Al_init x5 m5) (fun x9 m9 => b1 (pV m9 v0 9 0 (vR x5)) (fun m12 => b1 (pV m12 v0 9 3 (vI 0)) (fun m17 => b1 (pV m17 v0 9 1 (vR v1)) (fun m22 => b1 (pV m22 v0 9 2 (vI v2)) (fun m27 => some ((), m27)))))))))) = some (r, μ') := h
  refine wm_aload_n E dWa_init_0 rfl (j := 0) rfl ?_
  obtain ⟨u1, hr1, h⟩ := b1S h
  refine wm_obj E hr1 oi_Wa_1 (by rw [hR]; decide) (by rw [hR]; decide) rfl dWa_init_1 ?_
  refine wm_aload_n E dWa_init_4 rfl (j := 0) rfl ?_
  refine wm_new E nd_Wa_7 h (by rw [hR]; decide) (by rw [hR]; decide) dWa_init_5 (fun x5 m5 h => ?_)
  refine wm_dup E dWa_init_8 rfl ?_
  obtain ⟨u9, hr9, h⟩ := b1S h
  obtain ⟨x9, m9, hc9, h⟩ := b2S h
  refine wm_cI (ci := 0) (As := []) (st := [vR x5, vR v0]) E lk_Wa_9 rfl rfl im_Al_init hr9 (C_Al_init (xl X) X.1 x5 m5 _ _ hc9) rfl rfl (by rw [hR]; decide) (by rw [hR]; decide) (Nat.le_of_ble_eq_true rfl) dWa_init_9 ?_
  refine wm_pR E fp_Wa_10 (Or.inl ⟨_, rfl⟩) (fun _ => hI) h dWa_init_12 (fun m12 h => ?_)
  refine wm_aload_n E dWa_init_15 rfl (j := 0) rfl ?_
  refine wm_iconst (x := 0) E dWa_init_16 (by decide) ?_
  refine wm_pI E fp_Wa_16 (fun q => by cases q) h dWa_init_17 (fun m17 h => ?_)
  refine wm_aload_n E dWa_init_20 rfl (j := 0) rfl ?_
  refine wm_aload_n E dWa_init_21 rfl (j := 1) rfl ?_
  refine wm_pR E fp_Wa_20 (Or.inl ⟨_, rfl⟩) (fun _ => hI) h dWa_init_22 (fun m22 h => ?_)
  refine wm_aload_n E dWa_init_25 rfl (j := 0) rfl ?_
  refine wm_iload_n E dWa_init_26 rfl (j := 2) rfl ?_
  refine wm_pI E fp_Wa_24 (fun _ => hI) h dWa_init_27 (fun m27 h => ?_)
  exact wm_vret E hQ rfl (rtM h) (by decide) (by decide) dWa_init_30
def B_P_watch_16   (μ : Mem) : Option ((Nat ⊕ Unit) × Mem) := some (.inl 0, μ)
set_option maxHeartbeats 4000000 in
set_option maxRecDepth 100000 in
theorem w_P_watch_16 {X : CX} (E : EV X prog_1_method_19_code 5 "PlaceFinder" none) {μ0 μ' : Mem} {r : (Nat ⊕ Unit)} (hQ : RQ2 X 8 205 μ0 (cvV r) μ') (hR : xR X = { frames := 7, cells := 8, slots := 205, locals := 191 }) (hI : X.2.2.2.2.2.2.2.2.2.2.2.1.name = "watch")   (μ : Mem) (h : B_P_watch_16   μ = some (r, μ')) : WM X 5 16 [] [] 0 0 μ := by
  have h : (some (.inl 0, μ)) = some (r, μ') := h
  obtain ⟨μs, hX⟩ := rqXV hQ h
  exact wm_throw (ln := 3) (names := exU) (cls := "java/lang/IllegalArgumentException") E tf_P_91_297 hX ⟨(by rw [hR]; decide), by decide⟩ ⟨(by rw [hR]; decide), by decide⟩ (by rw [hR]; decide) (by rw [hR]; decide) (Nat.le_of_ble_eq_true rfl) dP_watch_16 dP_watch_19 (Or.inr ⟨rfl, dP_watch_20⟩) dP_watch_23 dP_watch_26
def B_P_watch_43  : Nat → Option Nat → Int32 → Option Nat → Int32 → Mem → Option ((Nat ⊕ Unit) × Mem)
  | 0, _, _, _, _, _ => none
  | n + 1, v0, v1, v3, v4, μ => b1 (gR μ v0 11 7) (fun x46 => b1 (rc μ x46 0) (fun _ => b1 (S_Al_size x46 μ) (fun x49 => if x49 ≤ v4 then b1 (gR μ v0 11 8) (fun x82 => b1 (sR μ x82 5 [9] v1 v3) (fun m87 => some (.inr (), m87))) else b1 (gR μ v3 9 0) (fun x56 => b1 (gR μ v0 11 7) (fun x60 => b1 (rc μ x60 0) (fun _ => b1 (S_Al_get x60 v4 μ) (fun x65 => b1 (cK μ x65 1) (fun _ => b1 (rc μ x56 0) (fun _ => b2 (S_Al_add x56 x65 μ) (fun x71 m71 => (fun v0 v1 v3 v4 μ => B_P_watch_43 n v0 v1 v3 v4 μ) v0 v1 v3 (v4 + 1) m71))))))))))
set_option maxHeartbeats 4000000 in
set_option maxRecDepth 100000 in
theorem w_P_watch_43 {X : CX} (E : EV X prog_1_method_19_code 5 "PlaceFinder" none) {μ0 μ' : Mem} {r : (Nat ⊕ Unit)} (hQ : RQ2 X 8 205 μ0 (cvV r) μ') (hR : xR X = { frames := 7, cells := 8, slots := 205, locals := 191 }) (hI : X.2.2.2.2.2.2.2.2.2.2.2.1.name = "watch")  (n : Nat) : ∀ (kc ks : Nat) (hkc : kc + n * 1 ≤ 8) (hks : ks + n * 33 ≤ 205) (v0 : Option Nat) (v1 : Int32) (v3 : Option Nat) (v4 : Int32) (μ : Mem) (h : B_P_watch_43  n v0 v1 v3 v4 μ = some (r, μ')), WM X 5 43 [(0, vR v0), (1, vI v1), (3, vR v3), (4, vI v4)] [] kc ks μ := by
  induction n with
  | zero => intro kc ks hkc hks v0 v1 v3 v4 μ h; cases h
  | succ n ih =>
    intro kc ks hkc hks v0 v1 v3 v4 μ h
    have h : (b1 (gR μ v0 11 7) (fun x46 => b1 (rc μ x46 0) (fun _ => b1 (S_Al_size x46 μ) (fun x49 => if x49 ≤ v4 then b1 (gR μ v0 11 8) (fun x82 => b1 (sR μ x82 5 [9] v1 v3) (fun m87 => some (.inr (), m87))) else b1 (gR μ v3 9 0) (fun x56 => b1 (gR μ v0 11 7) (fun x60 => b1 (rc μ x60 0) (fun _ => b1 (S_Al_get x60 v4 μ) (fun x65 => b1 (cK μ x65 1) (fun _ => b1 (rc μ x56 0) (fun _ => b2 (S_Al_add x56 x65 μ) (fun x71 m71 => (fun v0 v1 v3 v4 μ => B_P_watch_43 n v0 v1 v3 v4 μ) v0 v1 v3 (v4 + 1) m71))))))))))) = some (r, μ') := h
    refine wm_iload E dP_watch_43 (j := 3) rfl ?_
    refine wm_aload_n E dP_watch_45 rfl (j := 0) rfl ?_
    refine wm_gR E fd_P_43 h dP_watch_46 (fun x46 h => ?_)
    obtain ⟨u49, hr49, h⟩ := b1S h
    obtain ⟨x49, hc49, h⟩ := b1S h
    refine wm_cV (ci := 0) (As := []) (st := [vI v4]) E lk_P_98 rfl im_Al_size sl_Al_size hr49 (C_Al_size (xl X) X.1 x46 μ _ hc49) rfl rfl (by rw [hR]; dsimp only; omega) (by rw [hR]; dsimp only; omega) (Nat.le_of_ble_eq_true rfl) dP_watch_49 ?_
    refine wm_icmp_ge (tgt := 81) E dP_watch_52 (by decide) (fun c52 => ?_) (fun c52 => ?_)
    · have h := (if_pos c52).symm.trans h
      refine wm_aload_n E dP_watch_81 rfl (j := 0) rfl ?_
      refine wm_gR E fd_P_48 h dP_watch_82 (fun x82 h => ?_)
      refine wm_iload_n E dP_watch_85 rfl (j := 1) rfl ?_
      refine wm_aload_n E dP_watch_86 rfl (j := 2) rfl ?_
      refine wm_aast (t := 5) (cs := [9]) E rfl as_P_watch_87 h dP_watch_87 (fun m87 h => ?_)
      exact wm_vret E (rqV hQ h) rfl rfl (by omega) (by omega) dP_watch_88
    · have h := (if_neg c52).symm.trans h
      refine wm_aload_n E dP_watch_55 rfl (j := 2) rfl ?_
      refine wm_gR E fd_P_301 h dP_watch_56 (fun x56 h => ?_)
      refine wm_aload_n E dP_watch_59 rfl (j := 0) rfl ?_
      refine wm_gR E fd_P_43 h dP_watch_60 (fun x60 h => ?_)
      refine wm_iload E dP_watch_63 (j := 3) rfl ?_
      obtain ⟨u65, hr65, h⟩ := b1S h
      obtain ⟨x65, hc65, h⟩ := b1S h
      refine wm_cV (ci := 0) (As := [vI v4]) (st := [vR x56]) E lk_P_223 rfl im_Al_get sl_Al_get hr65 (C_Al_get (xl X) X.1 x60 v4 μ _ hc65) rfl rfl (by rw [hR]; dsimp only; omega) (by rw [hR]; dsimp only; omega) (Nat.le_of_ble_eq_true rfl) dP_watch_65 ?_
      refine wm_ckc (ci := 1) E rfl cl_P_73 h dP_watch_68 (fun h => ?_)
      obtain ⟨u71, hr71, h⟩ := b1S h
      obtain ⟨x71, m71, hc71, h⟩ := b2S h
      refine wm_cV (ci := 0) (As := [vR x65]) (st := []) E lk_P_112 rfl im_Al_add sl_Al_add hr71 (C_Al_add (xl X) X.1 x56 x65 μ _ _ hc71) rfl rfl (by rw [hR]; dsimp only; omega) (by rw [hR]; dsimp only; omega) (Nat.le_of_ble_eq_true rfl) dP_watch_71 ?_
      refine wm_pop E dP_watch_74 rfl ?_
      refine wm_iinc (lv' := [(4, vI (v4 + 1)), (0, vR v0), (1, vI v1), (3, vR v3)]) (d := 1) E dP_watch_75 (by decide) (j := 3) rfl (by decide) rfl ?_
      refine wm_goto (tgt := 43) E dP_watch_78 (by decide) ?_
      refine wm_pick (lv' := [(0, vR v0), (1, vI v1), (3, vR v3), (4, vI (v4 + 1))]) [1, 2, 3, 0] rfl ?_
      exact ih (kc + 1) (ks + 33) (by omega) (by omega) v0 v1 v3 (v4 + 1) m71 h
def S_P_watch (v0 : Option Nat) (v1 : Int32) (v2 : Int32) (μ : Mem) : Option ((Nat ⊕ Unit) × Mem) := if v1 < 0 then B_P_watch_16 μ else if 4 ≤ v1 then B_P_watch_16 μ else b1 (S_P_isDay v2 μ) (fun x10 => if x10 = 0 then B_P_watch_16 μ else b2 (nO μ 9 [.null, .null, .int 0, .int 0]) (fun x27 m27 => b1 (gR m27 v0 11 4) (fun x32 => b1 (rc m27 x27 9) (fun _ => b2 (S_Wa_init x27 x32 v2 m27) (fun x36 m36 => B_P_watch_43 6 v0 v1 x27 0 m36)))))
set_option maxHeartbeats 4000000 in
set_option maxRecDepth 100000 in
theorem w_P_watch_e {X : CX} (E : EV X prog_1_method_19_code 5 "PlaceFinder" none) {μ0 μ' : Mem} {r : (Nat ⊕ Unit)} (hQ : RQ2 X 8 205 μ0 (cvV r) μ') (hR : xR X = { frames := 7, cells := 8, slots := 205, locals := 191 }) (hI : X.2.2.2.2.2.2.2.2.2.2.2.1.name = "watch") (v0 : Option Nat) (v1 : Int32) (v2 : Int32) (μ : Mem) (h : S_P_watch v0 v1 v2 μ = some (r, μ')) : WM X 5 0 [(0, vR v0), (1, vI v1), (2, vI v2)] [] 0 0 μ := by
  have h : (if v1 < 0 then B_P_watch_16 μ else if 4 ≤ v1 then B_P_watch_16 μ else b1 (S_P_isDay v2 μ) (fun x10 => if x10 = 0 then B_P_watch_16 μ else b2 (nO μ 9 [.null, .null, .int 0, .int 0]) (fun x27 m27 => b1 (gR m27 v0 11 4) (fun x32 => b1 (rc m27 x27 9) (fun _ => b2 (S_Wa_init x27 x32 v2 m27) (fun x36 m36 => B_P_watch_43 6 v0 v1 x27 0 m36)))))) = some (r, μ') := h
  refine wm_iload_n E dP_watch_0 rfl (j := 1) rfl ?_
  refine wm_if_lt (tgt := 16) E dP_watch_1 (by decide) (fun c1 => ?_) (fun c1 => ?_)
  · have h := (if_pos c1).symm.trans h
    refine wm_pick (lv' := []) [] rfl ?_
    exact w_P_watch_16 E hQ hR hI μ h
  · have h := (if_neg c1).symm.trans h
    refine wm_iload_n E dP_watch_4 rfl (j := 1) rfl ?_
    refine wm_iconst (x := 4) E dP_watch_5 (by decide) ?_
    refine wm_icmp_ge (tgt := 16) E dP_watch_6 (by decide) (fun c6 => ?_) (fun c6 => ?_)
    · have h := (if_pos c6).symm.trans h
      refine wm_pick (lv' := []) [] rfl ?_
      exact w_P_watch_16 E hQ hR hI μ h
    · have h := (if_neg c6).symm.trans h
      refine wm_iload_n E dP_watch_9 rfl (j := 2) rfl ?_
      obtain ⟨x10, hc10, h⟩ := b1S h
      refine wm_cS (As := [vI v2]) (st := []) E lk_P_128 sc_P_isDay (C_P_isDay (xl X) X.1 v2 μ _ hc10) rfl rfl (by rw [hR]; decide) (by rw [hR]; decide) (Nat.le_of_ble_eq_true rfl) dP_watch_10 ?_
      refine wm_if_ne (tgt := 27) E dP_watch_13 (by decide) (fun c13 => ?_) (fun c13 => ?_)
      · have h := (if_neg c13).symm.trans h
        refine wm_new E nd_P_46 h (by rw [hR]; decide) (by rw [hR]; decide) dP_watch_27 (fun x27 m27 h => ?_)
        refine wm_dup E dP_watch_30 rfl ?_
        refine wm_aload_n E dP_watch_31 rfl (j := 0) rfl ?_
        refine wm_gR E fd_P_32 h dP_watch_32 (fun x32 h => ?_)
        refine wm_iload_n E dP_watch_35 rfl (j := 2) rfl ?_
        obtain ⟨u36, hr36, h⟩ := b1S h
        obtain ⟨x36, m36, hc36, h⟩ := b2S h
        refine wm_cI (ci := 9) (As := [vR x32, vI v2]) (st := [vR x27]) E lk_P_299 rfl rfl im_Wa_init hr36 (C_Wa_init (xl X) X.1 x27 x32 v2 m27 _ _ hc36) rfl rfl (by rw [hR]; decide) (by rw [hR]; decide) (Nat.le_of_ble_eq_true rfl) dP_watch_36 ?_
        refine wm_astore_n (lv' := [(3, vR x27), (0, vR v0), (1, vI v1), (2, vI v2)]) E dP_watch_39 rfl (by decide) rfl ?_
        refine wm_iconst (x := 0) E dP_watch_40 (by decide) ?_
        refine wm_istore (lv' := [(4, vI 0), (3, vR x27), (0, vR v0), (1, vI v1), (2, vI v2)]) E dP_watch_41 (by decide) rfl ?_
        refine wm_pick (lv' := [(0, vR v0), (1, vI v1), (3, vR x27), (4, vI 0)]) [2, 3, 1, 0] rfl ?_
        exact w_P_watch_43 E hQ hR hI 6 2 7 (by decide) (by decide) v0 v1 x27 0 m36 h
      · have h := (if_pos c13).symm.trans h
        refine wm_pick (lv' := []) [] rfl ?_
        exact w_P_watch_16 E hQ hR hI μ h
theorem C_P_watch (l : Launch) (G : GG) (v0 : Option Nat) (v1 : Int32) (v2 : Int32) (μ μ' : Mem) (r : Unit) (h : S_P_watch v0 v1 v2 μ = some (.inr r, μ')) : CT l G y_P_watch prog_1_method_19_code 5 none 7 8 205 191 μ [vR v0, vI v1, vI v2] none μ' := by
  refine wm_met (lv := [(0, vR v0), (1, vI v1), (2, vI v2)]) (by decide +kernel) (Nat.le_of_ble_eq_true rfl) rfl (fun X E hQ hR hI => ?_)
  exact w_P_watch_e (r := .inr r) E hQ hR hI v0 v1 v2 μ h
theorem X_P_watch (l : Launch) (hl : LF l) (G : GG) (v0 : Option Nat) (v1 : Int32) (v2 : Int32) (μ μ' : Mem) (k : Nat) (h : S_P_watch v0 v1 v2 (m_up μ) = some (.inl k, μ')) : CZ l G y_P_watch prog_1_method_19_code 5 none 7 8 205 191 μ [vR v0, vI v1, vI v2] (exN k) := by
  refine wm_metX hl (lv := [(0, vR v0), (1, vI v1), (2, vI v2)]) (by decide +kernel) (Nat.le_of_ble_eq_true rfl) rfl (fun X E hX hR hI => ?_)
  exact w_P_watch_e (μ0 := μ) (r := .inl k) E ⟨μ, hX⟩ hR hI v0 v1 v2 (m_up μ) h
