def S_L_watch (v0 : Option Nat) (v1 : Int32) (v2 : Int32) (μ : Mem) : Option (Int32 × Mem) := b1 (rc μ v0 11) (fun _ => b2 (nrm (S_P_watch v0 v1 v2 μ)) (fun x3 m3 => some (0, m3)))
set_option maxHeartbeats 4000000 in
set_option maxRecDepth 100000 in
theorem C_L_watch (l : Launch) (G : GG) (v0 : Option Nat) (v1 : Int32) (v2 : Int32) (μ μ' : Mem) (r : Int32) (h : S_L_watch v0 v1 v2 μ = some (r, μ')) : CW l G y_L_watch method_16_code 4 (some .int) [(0, 6, 9, 13)] 8 8 205 215 μ [vR v0, vI v1, vI v2] (some (vI r)) (fun m => m = μ') := by
  refine wm_metW (lv := [(0, vR v0), (1, vI v1), (2, vI v2)]) (by decide +kernel) (Nat.le_of_ble_eq_true rfl) rfl (fun X E hQ0 hTB hXl hXG hR hI => ?_)
  have hQ := rqm hQ0 (μ' := μ') rfl
  have h : (b1 (rc μ v0 11) (fun _ => b2 (nrm (S_P_watch v0 v1 v2 μ)) (fun x3 m3 => some (0, m3)))) = some (r, μ') := h
  refine wm_aload_n E dL_watch_0 rfl (j := 0) rfl ?_
  refine wm_iload_n E dL_watch_1 rfl (j := 1) rfl ?_
  refine wm_iload_n E dL_watch_2 rfl (j := 2) rfl ?_
  obtain ⟨u3, hr3, h⟩ := b1S h
  obtain ⟨x3, m3, hc3, h⟩ := b2S h
  refine wm_cV (ci := 11) (As := [vI v1, vI v2]) (st := []) E lk_L_66 rfl im_P_watch sl_P_watch hr3 (C_P_watch (xl X) X.1 v0 v1 v2 μ _ _ (nrmS hc3)) rfl rfl (by rw [hR]; decide) (by rw [hR]; decide) (Nat.le_of_ble_eq_true rfl) dL_watch_3 ?_
  refine wm_goto (tgt := 12) E dL_watch_6 (by decide) ?_
  refine wm_iconst (x := 0) E dL_watch_12 (by decide) ?_
  exact wm_iret (rt := .int) E hQ (rtI h) (rtM h) (by decide) (by decide) dL_watch_13
set_option maxHeartbeats 4000000 in
set_option maxRecDepth 100000 in
theorem X_L_watch_0 (l : Launch) (hl : LF l) (G : GG) (v0 : Option Nat) (v1 : Int32) (v2 : Int32) (μ μx : Mem) {u : Unit} (hr : rc μ v0 11 = some u) (h : S_P_watch v0 v1 v2 (m_up μ) = some (.inl 0, μx)) : CW l G y_L_watch method_16_code 4 (some .int) [(0, 6, 9, 13)] 8 8 205 215 μ [vR v0, vI v1, vI v2] (some (vI 1)) (fun m => ∃ M9, mN μ ≤ M9 ∧ m = m_grow μ M9) := by
  refine wm_metW (lv := [(0, vR v0), (1, vI v1), (2, vI v2)]) (by decide +kernel) (Nat.le_of_ble_eq_true rfl) rfl (fun X E hQ0 hTB hXl hXG hR hI => ?_)
  refine wm_aload_n E dL_watch_0 rfl (j := 0) rfl ?_
  refine wm_iload_n E dL_watch_1 rfl (j := 1) rfl ?_
  refine wm_iload_n E dL_watch_2 rfl (j := 2) rfl ?_
  refine wm_cVX (ci := 11) (As := [vI v1, vI v2]) (st := []) E hTB lk_L_66 ml_L_66 rfl im_P_watch sl_P_watch hr (X_P_watch (xl X) (by rw [hXl]; exact hl) X.1 v0 v1 v2 μ μx 0 h) rfl rfl (by rw [hR]; decide) (by rw [hR]; decide) (Nat.le_of_ble_eq_true rfl) dL_watch_3 [] (0, 6, 9, 13) [] rfl (fun z h => nomatch h) (by decide) (by decide) cl_L_13 ca_ex0 (fun M9 a9 hM9 => ?_)
  refine wm_astore_n (lv' := [(3, vR ((some a9))), (0, vR v0), (1, vI v1), (2, vI v2)]) E dL_watch_9 rfl (by decide) rfl ?_
  refine wm_iconst (x := 1) E dL_watch_10 (by decide) ?_
  exact wm_iret (rt := .int) E (rqm hQ0 ⟨M9, hM9, rfl⟩) rfl rfl (by decide) (by decide) dL_watch_11
def S_L_news (v0 : Option Nat) (v1 : Int32) (v2 : Option Nat) (μ : Mem) : Option (Int32 × Mem) := b1 (rc μ v0 11) (fun _ => b2 (nrm (S_P_news v0 v1 μ)) (fun x4 m4 => b1 (sL m4 v2 1 0 ((x4 : Int32).toInt64)) (fun m8 => some (0, m8))))
set_option maxHeartbeats 4000000 in
set_option maxRecDepth 100000 in
theorem C_L_news (l : Launch) (G : GG) (v0 : Option Nat) (v1 : Int32) (v2 : Option Nat) (μ μ' : Mem) (r : Int32) (h : S_L_news v0 v1 v2 μ = some (r, μ')) : CW l G y_L_news method_17_code 4 (some .int) [(0, 9, 12, 13)] 11 1 6 253 μ [vR v0, vI v1, vR v2] (some (vI r)) (fun m => m = μ') := by
  refine wm_metW (lv := [(0, vR v0), (1, vI v1), (2, vR v2)]) (by decide +kernel) (Nat.le_of_ble_eq_true rfl) rfl (fun X E hQ0 hTB hXl hXG hR hI => ?_)
  have hQ := rqm hQ0 (μ' := μ') rfl
  have h : (b1 (rc μ v0 11) (fun _ => b2 (nrm (S_P_news v0 v1 μ)) (fun x4 m4 => b1 (sL m4 v2 1 0 ((x4 : Int32).toInt64)) (fun m8 => some (0, m8))))) = some (r, μ') := h
  refine wm_aload_n E dL_news_0 rfl (j := 2) rfl ?_
  refine wm_iconst (x := 0) E dL_news_1 (by decide) ?_
  refine wm_aload_n E dL_news_2 rfl (j := 0) rfl ?_
  refine wm_iload_n E dL_news_3 rfl (j := 1) rfl ?_
  obtain ⟨u4, hr4, h⟩ := b1S h
  obtain ⟨x4, m4, hc4, h⟩ := b2S h
  refine wm_cV (ci := 11) (As := [vI v1]) (st := [vI 0, vR v2]) E lk_L_69 rfl im_P_news sl_P_news hr4 (C_P_news (xl X) X.1 v0 v1 μ _ _ (nrmS hc4)) rfl rfl (by rw [hR]; decide) (by rw [hR]; decide) (Nat.le_of_ble_eq_true rfl) dL_news_4 ?_
  refine wm_i2l E dL_news_7 ?_
  refine wm_last (t := 1) E rfl h dL_news_8 (fun m8 h => ?_)
  refine wm_goto (tgt := 15) E dL_news_9 (by decide) ?_
  refine wm_iconst (x := 0) E dL_news_15 (by decide) ?_
  exact wm_iret (rt := .int) E hQ (rtI h) (rtM h) (by decide) (by decide) dL_news_16
set_option maxHeartbeats 4000000 in
set_option maxRecDepth 100000 in
theorem X_L_news_0 (l : Launch) (hl : LF l) (G : GG) (v0 : Option Nat) (v1 : Int32) (v2 : Option Nat) (μ μx : Mem) {u : Unit} (hr : rc μ v0 11 = some u) (h : S_P_news v0 v1 (m_up μ) = some (.inl 0, μx)) : CW l G y_L_news method_17_code 4 (some .int) [(0, 9, 12, 13)] 11 1 6 253 μ [vR v0, vI v1, vR v2] (some (vI 1)) (fun m => ∃ M9, mN μ ≤ M9 ∧ m = m_grow μ M9) := by
  refine wm_metW (lv := [(0, vR v0), (1, vI v1), (2, vR v2)]) (by decide +kernel) (Nat.le_of_ble_eq_true rfl) rfl (fun X E hQ0 hTB hXl hXG hR hI => ?_)
  refine wm_aload_n E dL_news_0 rfl (j := 2) rfl ?_
  refine wm_iconst (x := 0) E dL_news_1 (by decide) ?_
  refine wm_aload_n E dL_news_2 rfl (j := 0) rfl ?_
  refine wm_iload_n E dL_news_3 rfl (j := 1) rfl ?_
  refine wm_cVX (ci := 11) (As := [vI v1]) (st := [vI 0, vR v2]) E hTB lk_L_69 ml_L_69 rfl im_P_news sl_P_news hr (X_P_news (xl X) (by rw [hXl]; exact hl) X.1 v0 v1 μ μx 0 h) rfl rfl (by rw [hR]; decide) (by rw [hR]; decide) (Nat.le_of_ble_eq_true rfl) dL_news_4 [] (0, 9, 12, 13) [] rfl (fun z h => nomatch h) (by decide) (by decide) cl_L_13 ca_ex0 (fun M9 a9 hM9 => ?_)
  refine wm_astore_n (lv' := [(3, vR ((some a9))), (0, vR v0), (1, vI v1), (2, vR v2)]) E dL_news_12 rfl (by decide) rfl ?_
  refine wm_iconst (x := 1) E dL_news_13 (by decide) ?_
  exact wm_iret (rt := .int) E (rqm hQ0 ⟨M9, hM9, rfl⟩) rfl rfl (by decide) (by decide) dL_news_14
def S_L_told (v0 : Option Nat) (v1 : Int32) (v2 : Option Nat) (μ : Mem) : Option (Int32 × Mem) := b1 (rc μ v0 11) (fun _ => b2 (nrm (S_P_told v0 v1 μ)) (fun x4 m4 => b1 (sL m4 v2 1 0 ((x4 : Int32).toInt64)) (fun m8 => some (0, m8))))
set_option maxHeartbeats 4000000 in
set_option maxRecDepth 100000 in
theorem C_L_told (l : Launch) (G : GG) (v0 : Option Nat) (v1 : Int32) (v2 : Option Nat) (μ μ' : Mem) (r : Int32) (h : S_L_told v0 v1 v2 μ = some (r, μ')) : CW l G y_L_told method_18_code 4 (some .int) [(0, 9, 12, 13)] 11 1 6 254 μ [vR v0, vI v1, vR v2] (some (vI r)) (fun m => m = μ') := by
  refine wm_metW (lv := [(0, vR v0), (1, vI v1), (2, vR v2)]) (by decide +kernel) (Nat.le_of_ble_eq_true rfl) rfl (fun X E hQ0 hTB hXl hXG hR hI => ?_)
  have hQ := rqm hQ0 (μ' := μ') rfl
  have h : (b1 (rc μ v0 11) (fun _ => b2 (nrm (S_P_told v0 v1 μ)) (fun x4 m4 => b1 (sL m4 v2 1 0 ((x4 : Int32).toInt64)) (fun m8 => some (0, m8))))) = some (r, μ') := h
  refine wm_aload_n E dL_told_0 rfl (j := 2) rfl ?_
  refine wm_iconst (x := 0) E dL_told_1 (by decide) ?_
  refine wm_aload_n E dL_told_2 rfl (j := 0) rfl ?_
  refine wm_iload_n E dL_told_3 rfl (j := 1) rfl ?_
  obtain ⟨u4, hr4, h⟩ := b1S h
  obtain ⟨x4, m4, hc4, h⟩ := b2S h
  refine wm_cV (ci := 11) (As := [vI v1]) (st := [vI 0, vR v2]) E lk_L_72 rfl im_P_told sl_P_told hr4 (C_P_told (xl X) X.1 v0 v1 μ _ _ (nrmS hc4)) rfl rfl (by rw [hR]; decide) (by rw [hR]; decide) (Nat.le_of_ble_eq_true rfl) dL_told_4 ?_
  refine wm_i2l E dL_told_7 ?_
  refine wm_last (t := 1) E rfl h dL_told_8 (fun m8 h => ?_)
  refine wm_goto (tgt := 15) E dL_told_9 (by decide) ?_
  refine wm_iconst (x := 0) E dL_told_15 (by decide) ?_
  exact wm_iret (rt := .int) E hQ (rtI h) (rtM h) (by decide) (by decide) dL_told_16
set_option maxHeartbeats 4000000 in
set_option maxRecDepth 100000 in
theorem X_L_told_0 (l : Launch) (hl : LF l) (G : GG) (v0 : Option Nat) (v1 : Int32) (v2 : Option Nat) (μ μx : Mem) {u : Unit} (hr : rc μ v0 11 = some u) (h : S_P_told v0 v1 (m_up μ) = some (.inl 0, μx)) : CW l G y_L_told method_18_code 4 (some .int) [(0, 9, 12, 13)] 11 1 6 254 μ [vR v0, vI v1, vR v2] (some (vI 1)) (fun m => ∃ M9, mN μ ≤ M9 ∧ m = m_grow μ M9) := by
  refine wm_metW (lv := [(0, vR v0), (1, vI v1), (2, vR v2)]) (by decide +kernel) (Nat.le_of_ble_eq_true rfl) rfl (fun X E hQ0 hTB hXl hXG hR hI => ?_)
  refine wm_aload_n E dL_told_0 rfl (j := 2) rfl ?_
  refine wm_iconst (x := 0) E dL_told_1 (by decide) ?_
  refine wm_aload_n E dL_told_2 rfl (j := 0) rfl ?_
  refine wm_iload_n E dL_told_3 rfl (j := 1) rfl ?_
  refine wm_cVX (ci := 11) (As := [vI v1]) (st := [vI 0, vR v2]) E hTB lk_L_72 ml_L_72 rfl im_P_told sl_P_told hr (X_P_told (xl X) (by rw [hXl]; exact hl) X.1 v0 v1 μ μx 0 h) rfl rfl (by rw [hR]; decide) (by rw [hR]; decide) (Nat.le_of_ble_eq_true rfl) dL_told_4 [] (0, 9, 12, 13) [] rfl (fun z h => nomatch h) (by decide) (by decide) cl_L_13 ca_ex0 (fun M9 a9 hM9 => ?_)
  refine wm_astore_n (lv' := [(3, vR ((some a9))), (0, vR v0), (1, vI v1), (2, vR v2)]) E dL_told_12 rfl (by decide) rfl ?_
  refine wm_iconst (x := 1) E dL_told_13 (by decide) ?_
  exact wm_iret (rt := .int) E (rqm hQ0 ⟨M9, hM9, rfl⟩) rfl rfl (by decide) (by decide) dL_told_14
