def S_law (μ : Mem) : Option ((Option Nat × Option Nat × Option Nat) × Mem) := b2 (nO μ 11 [.null, .null, .null, .int 0, .null, .null, .int 0, .null, .null, .null, .null, .null, .null]) (fun x0 m0 => b1 (rc m0 x0 11) (fun _ => b2 (S_P_init x0 m0) (fun x4 m4 => b2 (nO m4 12 [.int 0, .int 0, .null, .null, .null, .null, .null, .null, .null, .null, .null, .null, .null, .null, .null, .null, .null, .null, .int 0, .null, .null, .int 0, .null, .null, .null, .null, .null, .null, .null, .null, .null, .null, .null, .null, .null, .null, .int 0, .null, .int 0, .null, .null, .long 0, .long 0, .long 0, .long 0, .long 0, .long 0, .long 0, .long 0, .int 0, .null, .null, .null, .null, .null]) (fun x8 m8 => b1 (rc m8 x8 12) (fun _ => b2 (S_M_init x8 m8) (fun x12 m12 => b2 (nL_ m12 1 1 1) (fun x17 m17 => some ((x0, x8, x17), m17))))))))
set_option maxHeartbeats 8000000 in
set_option maxRecDepth 100000 in
theorem law_start {X : CX} (E : EV X code 7 "PlaceFinderLaw" ret) {sb : Nat} {xs : Nat → Int32} {L : Nat} (hS : SX X sb L xs) (hR : xR X = room_1) (hLR : LR X) (hLF : LF (xl X)) (μ μ1 : Mem) (x0 : Option Nat) (b : Nat) (x17 : Option Nat) (ρ : RS) (h : S_law μ = some ((x0, some b, x17), μ1)) (hov : ov b ρ μ1 = μ1) (hL : LB_23 xs L x0 x17 b 513 0 ρ μ1) : WM X 7 0 [(0, vR (some sb))] [] 0 0 μ := by
  have h : (b2 (nO μ 11 [.null, .null, .null, .int 0, .null, .null, .int 0, .null, .null, .null, .null, .null, .null]) (fun x0 m0 => b1 (rc m0 x0 11) (fun _ => b2 (S_P_init x0 m0) (fun x4 m4 => b2 (nO m4 12 [.int 0, .int 0, .null, .null, .null, .null, .null, .null, .null, .null, .null, .null, .null, .null, .null, .null, .null, .null, .int 0, .null, .null, .int 0, .null, .null, .null, .null, .null, .null, .null, .null, .null, .null, .null, .null, .null, .null, .int 0, .null, .int 0, .null, .null, .long 0, .long 0, .long 0, .long 0, .long 0, .long 0, .long 0, .long 0, .int 0, .null, .null, .null, .null, .null]) (fun x8 m8 => b1 (rc m8 x8 12) (fun _ => b2 (S_M_init x8 m8) (fun x12 m12 => b2 (nL_ m12 1 1 1) (fun x17 m17 => some ((x0, x8, x17), m17))))))))) = some ((x0, some b, x17), μ1) := h
  refine wm_new E nd_L_8 h (by rw [hR]; decide) (by rw [hR]; decide) dL_law_0 (fun x0 m0 h => ?_)
  refine wm_dup E dL_law_3 rfl ?_
  obtain ⟨u4, hr4, h⟩ := b1S h
  obtain ⟨x4, m4, hc4, h⟩ := b2S h
  refine wm_cI (ci := 11) (As := []) (st := [vR x0]) E lk_L_75 rfl rfl im_P_init hr4 (C_P_init (xl X) X.1 x0 m0 _ _ hc4) rfl rfl (by rw [hR]; decide) (by rw [hR]; decide) (Nat.le_of_ble_eq_true rfl) dL_law_4 ?_
  refine wm_astore_n (lv' := [(1, vR x0), (0, vR ((some sb)))]) E dL_law_7 rfl (by decide) rfl ?_
  refine wm_new E nd_L_76 h (by rw [hR]; decide) (by rw [hR]; decide) dL_law_8 (fun x8 m8 h => ?_)
  refine wm_dup E dL_law_11 rfl ?_
  obtain ⟨u12, hr12, h⟩ := b1S h
  obtain ⟨x12, m12, hc12, h⟩ := b2S h
  refine wm_cI (ci := 12) (As := []) (st := [vR x8]) E lk_L_78 rfl rfl im_M_init hr12 (C_M_init (xl X) X.1 x8 m8 _ _ hc12) rfl rfl (by rw [hR]; decide) (by rw [hR]; decide) (Nat.le_of_ble_eq_true rfl) dL_law_12 ?_
  refine wm_astore_n (lv' := [(2, vR x8), (1, vR x0), (0, vR ((some sb)))]) E dL_law_15 rfl (by decide) rfl ?_
  refine wm_iconst (x := 1) E dL_law_16 (by decide) ?_
  refine wm_newl (t := 1) (B := 1) E rfl rfl rfl ac_J h (by decide) (by rw [hR]; decide) (by rw [hR]; decide) dL_law_17 (fun x17 m17 h => ?_)
  refine wm_astore_n (lv' := [(3, vR x17), (2, vR x8), (1, vR x0), (0, vR ((some sb)))]) E dL_law_19 rfl (by decide) rfl ?_
  refine wm_iconst (x := 0) E dL_law_20 (by decide) ?_
  refine wm_istore (lv' := [(4, vI 0), (3, vR x17), (2, vR x8), (1, vR x0), (0, vR ((some sb)))]) E dL_law_21 (by decide) rfl ?_
  cases h
  refine wm_pick (lv' := [(0, vR (some sb)), (1, vR x0), (2, vR (some b)), (3, vR x17), (4, vI 0)]) [4, 3, 2, 1, 0] rfl ?_
  have K := lw_23 E hS hR hLR hLF 513 75 4070 (by decide) (by decide) 0 ρ μ1 hL
  rw [hov] at K
  exact K
