/-! near, the call -/
theorem Hi_empty_eq {ro : Nat → Nat} {μ : Mem} {H an ak n : Nat} (w : WF μ) (lo : LO μ) (h1 : Is ro μ H 11 (.inr (4, [.ref an, .ref ak, .int (i32 n)]))) : ∃ μ', S_Hi_empty (some H) μ = some ((), μ') ∧ Ext (fun q => q = 11) ro μ ro μ' ∧ Is ro μ' H 11 (.inr (4, [.ref an, .ref ak, .int (i32 0)])) := by
  have s1 : pV μ (some H) 4 2 (vI 0) = some (m_set μ H (.inr (4, [.ref an, .ref ak, .int (i32 0)]))) := pV_at _ h1.1 (h1.low lo) (show 2 < 3 by decide)
  refine ⟨_, ?_, Ext.set (W := fun q => q = 11) w h1 rfl _, h1.set ro _⟩
  unfold S_Hi_empty
  rw [s1, b1_some]
theorem call_near {b c v : Nat} {ρ : RS} {μ : Mem} (hI : Invt b c v ρ μ) (hov : ov b ρ μ = μ) (x y z kind day : Int32) : CallI (S_P_near (some c) x y z kind day) (R_M_near x y z kind day) [(0, 1)] b c v ρ μ := by
  have hI0 := hI
  obtain ⟨ro, N, pl, lPl, aX, aY, nc, rt, aT, nt, lC, aW, hH, eE, rR, an, h1, h2, h3, h4, h5, h6, h7, h8, h9, h10, h11, h12, h13, h14, h15, h16⟩ := hI
  have hk : ((-1) ≤ kind ∧ kind ≤ 7) ↔ (kind = -1 ∨ (0 ≤ kind ∧ kind ≤ 7)) := by
    rw [← Int32.toInt_inj, Int32.le_iff_toInt_le, Int32.le_iff_toInt_le, Int32.le_iff_toInt_le]
    have e0 : (0 : Int32).toInt = 0 := rfl
    have e1 : (-1 : Int32).toInt = -1 := rfl
    have e7 : (7 : Int32).toInt = 7 := rfl
    omega
  have hz : (1 ≤ z ∧ z ≤ 30) ↔ (¬ z < 1 ∧ ¬ 30 < z) := by rw [i32_nlt, i32_nlt]
  have hS0 : ∀ ν : Mem, S_P_near (some c) x y z kind day ν = B_P_near_19 (some c) x y z kind day (bI (kind = -1 ∨ (0 ≤ kind ∧ kind ≤ 7))) ν := by
    intro ν
    unfold S_P_near B_P_near_14
    by_cases k1 : kind = -1
    · rw [if_pos k1, bI_pos (.inl k1)]
    · rw [if_neg k1, S_isKind, b1_some]
      by_cases k2 : 0 ≤ kind ∧ kind ≤ 7
      · rw [if_neg (by rw [bI_pos k2]; decide), bI_pos (.inr k2)]
      · rw [if_pos (bI_neg k2), bI_neg (fun q => q.elim k1 k2)]
  have hbad : ¬ (((0 ≤ x ∧ x ≤ 4095) ∧ 0 ≤ y ∧ y ≤ 4095) ∧ (1 ≤ z ∧ z ≤ 30) ∧ ((-1) ≤ kind ∧ kind ≤ 7) ∧ 0 ≤ day ∧ day ≤ 9999) → CallI (S_P_near (some c) x y z kind day) (R_M_near x y z kind day) [(0, 1)] b c v ρ μ := by
    intro hb
    refine .inr ⟨0, m_up μ, 1, 0, rpI ρ 0 1, ?_, by decide, ?_, rfl, by decide, hI0.code 1⟩
    · rw [hS0]
      unfold B_P_near_19 B_P_near_53
      rw [S_arePosition, b1_some]
      by_cases c1 : (0 ≤ x ∧ x ≤ 4095) ∧ 0 ≤ y ∧ y ≤ 4095
      · rw [if_neg (by rw [bI_pos c1]; decide)]
        by_cases c2 : z < 1
        · rw [if_pos c2]
        · rw [if_neg c2]
          by_cases c3 : 30 < z
          · rw [if_pos c3]
          · rw [if_neg c3]
            by_cases c4 : kind = -1 ∨ (0 ≤ kind ∧ kind ≤ 7)
            · rw [if_neg (by rw [bI_pos c4]; decide), S_isDay, b1_some, if_pos (bI_neg (fun q => hb ⟨c1, hz.mpr ⟨c2, c3⟩, hk.mpr c4, q⟩))]
            · rw [if_pos (bI_neg c4)]
      · rw [if_pos (bI_neg c1)]
    · unfold R_M_near
      rw [R_isAt, b1_some]
      by_cases c1 : (0 ≤ x ∧ x ≤ 4095) ∧ 0 ≤ y ∧ y ≤ 4095
      · rw [if_neg (by rw [bI_pos c1]; decide), R_in, b1_some]
        by_cases c2 : 1 ≤ z ∧ z ≤ 30
        · rw [if_neg (by rw [bI_pos c2]; decide), R_in, b1_some]
          by_cases c4 : (-1) ≤ kind ∧ kind ≤ 7
          · rw [if_neg (by rw [bI_pos c4]; decide), R_isDay, b1_some, if_pos (bI_neg (fun q => hb ⟨c1, c2, c4, q⟩))]
            rfl
          · rw [if_pos (bI_neg c4)]
            rfl
        · rw [if_pos (bI_neg c2)]
          rfl
      · rw [if_pos (bI_neg c1)]
        rfl
  by_cases hgood : ((0 ≤ x ∧ x ≤ 4095) ∧ 0 ≤ y ∧ y ≤ 4095) ∧ (1 ≤ z ∧ z ≤ 30) ∧ ((-1) ≤ kind ∧ kind ≤ 7) ∧ 0 ≤ day ∧ day ≤ 9999
  case neg => exact hbad hgood
  obtain ⟨c1, c2, c3, c4⟩ := hgood
  obtain ⟨hx, hy⟩ := posB c1
  obtain ⟨q, rfl, hq⟩ := i32_pos (show ¬ z < 0 from i32_nlt.mpr (Int32.le_trans (by decide) c2.1))
  have hq30 : q ≤ 30 := (i32_le (b := 30) hq (by decide)).mp c2.2
  obtain ⟨H1, K1, n0, f0, g0, y1, y2, y3, y4, y5, y6⟩ := h9
  obtain ⟨μ1, s1, k1', i1⟩ := Hi_empty_eq h15 h16 y1
  have k1 : Ext WH ro μ ro μ1 := k1'.mono (fun r hr => .inl hr)
  have nW : ∀ r, ¬ (r = 11 ∨ r = 12 ∨ r = 13) → ¬ WH r := fun r h q => h q
  have hL0 : HL ro μ1 hH H1 K1 0 (ra ρ 37) (fun p => (ra ρ 51 p).toInt64) (fun _ => 0) 0 := ⟨Nat.le_refl _, i1, ⟨f0, y4.ext k1' (by decide), fun j hj => absurd hj (Nat.not_lt_zero j)⟩, ⟨g0, y5.ext k1' (by decide), fun j hj => absurd hj (Nat.not_lt_zero j)⟩, fun j hj => absurd hj (Nat.not_lt_zero j)⟩
  obtain ⟨μ2, S', Hs', n', h', L1, L2, L3, L4, L5, L6⟩ := near_loop (b := b) (v := v) (v3 := i32 q) (kind := kind) (day := day) h1 h2 hx hy N 0 fu μ1 (ra ρ 51) (ra ρ 37) 0 (fun _ => 0) k1.wf (k1.lo h15 h16) k1 hL0 (by omega) (by have := h2.2.1; show N < 4096; omega)
  obtain ⟨m1, m2, ⟨f2, m3, m4⟩, ⟨g2, m5, m6⟩, m7⟩ := L6
  have hN := h2.2.1
  have h1b := h1.ext L5 (nW _ (by omega))
  have hmin : (if i32 q < i32 n' then i32 q else i32 n') = i32 (min n' q) := i32_min (by omega) (by omega)
  have k3 : Ext WH ro μ2 ro (m_set μ2 hH (.inr (4, [.ref H1, .ref K1, .int (i32 (min n' q))]))) := Ext.set L3 m2 (.inl rfl) _
  have s3 : pV μ2 (some hH) 4 2 (vI (i32 (min n' q))) = some (m_set μ2 hH (.inr (4, [.ref H1, .ref K1, .int (i32 (min n' q))]))) := pV_at _ m2.1 (m2.low L4) (show 2 < 3 by decide)
  have i3 := m2.set ro (.inr (4, [.ref H1, .ref K1, .int (i32 (min n' q))]))
  have h1c := h1b.ext k3 (nW _ (by omega))
  have e := L5.tr k3
  have hnq : nQ (rpI ρ 0 0) (ra ρ 51) (ra ρ 37) 0 = rpI (rpI ρ 0 0) 36 (i32 0) := by
    show (va_up (ri (rpI ρ 0 0)) 36 (i32 0), rl ρ, va_up (va_up (ra ρ) 51 (ra ρ 51)) 37 (ra ρ 37), rL ρ) = (va_up (ri (rpI ρ 0 0)) 36 (i32 0), rl ρ, ra ρ, rL ρ)
    have : va_up (va_up (ra ρ) 51 (ra ρ 51)) 37 (ra ρ 37) = ra ρ := by
      funext q
      unfold va_up
      grind
    rw [this]
  rw [hnq] at L2
  have hfin : (if i32 q ≤ i32 n' then RB_M_near_151 (i32 q) (nQ (rpI ρ 0 0) S' Hs' n') else RB_M_near_151 (i32 n') (nQ (rpI ρ 0 0) S' Hs' n')) = some (i32 (min n' q), rpI (nQ (rpI ρ 0 0) S' Hs' n') 36 (i32 (min n' q))) := by
    rw [i32_min2 (by omega) (by omega) (fun s => RB_M_near_151 s (nQ (rpI ρ 0 0) S' Hs' n')), Nat.min_comm]
    rfl
  refine .inl ⟨i32 (min n' q), _, rpI (nQ (rpI ρ 0 0) S' Hs' n') 36 (i32 (min n' q)), ?_, ov_keep hov h14 e (nW _ (by omega)), ?_, rfl, ⟨ro, N, pl, lPl, aX, aY, nc, rt, aT, nt, lC, aW, hH, eE, rR, an, h1c, (h2.ext e (fun q hq => nW _ (by omega))).same rfl rfl rfl rfl rfl rfl rfl rfl rfl rfl rfl rfl rfl rfl rfl rfl rfl, h3.same (fun _ _ => rfl) (fun _ _ => rfl) rfl rfl rfl rfl, (h4.ext e (nW _ (by omega)) (nW _ (by omega))).same rfl rfl rfl, (h5.ext e (nW _ (by omega))).same rfl rfl rfl, (h6.ext e (nW _ (by omega))).same rfl rfl, (h7.ext e (nW _ (by omega)) (nW _ (by omega)) (nW _ (by omega))).same rfl rfl rfl rfl rfl rfl rfl, (h8.ext e (fun q hq => nW _ (by omega))).same rfl rfl rfl rfl rfl rfl rfl rfl rfl rfl rfl rfl rfl, ⟨H1, K1, min n' q, f2, g2, i3, rfl, by omega, m3.keep m2 (by decide) _, m5.keep m2 (by decide) _, fun j hj => m4 j (by omega)⟩, h10.ext e (nW _ (by omega)) (fun i _ => nW _ (by omega)), h11.ext e (nW _ (by omega)), h12.ext e (nW _ (by omega)), h13.ext e (nW _ (by omega)), h14.ext e, e.wf, e.lo h15 h16⟩⟩
  · rw [hS0]
    unfold B_P_near_19
    rw [S_arePosition, b1_some, if_neg (by rw [bI_pos c1]; decide), if_neg (hz.mp c2).1, if_neg (hz.mp c2).2, if_neg (by rw [bI_pos (hk.mp c3)]; decide), S_isDay, b1_some, if_neg (by rw [bI_pos c4]; decide), gR_at h1.1 (k := 9) rfl, b1_some, rc_at y1.1, b1_some, s1, b2_some, show (0 : Int32) = i32 0 from rfl, L1, gR_at h1b.1 (k := 9) rfl, b1_some, rc_at m2.1, b1_some]
    unfold S_Hi_keepFirst
    rw [gI_at m2.1 (k := 2) rfl, b1_some, Ma_min_eq, b1_some, hmin, s3, b1_some, b2_some, gR_at h1c.1 (k := 9) rfl, b1_some, gI_at i3.1 (k := 2) rfl, b1_some]
  · unfold R_M_near
    rw [R_isAt, b1_some, if_neg (by rw [bI_pos c1]; decide), R_in, b1_some, if_neg (by rw [bI_pos c2]; decide), R_in, b1_some, if_neg (by rw [bI_pos c3]; decide), R_isDay, b1_some, if_neg (by rw [bI_pos c4]; decide)]
    unfold RB_M_near_43
    rw [b0_eq, if_pos (show ri (rpI ρ 0 0) 0 ≤ 0 from by show (0 : Int32) ≤ 0; decide), b0_eq, show RB_M_near_63 fu x y (i32 q) kind day 0 (rpI (rpI ρ 0 0) 36 0) = RB_M_near_63 fu x y (i32 q) kind day (i32 0) (rpI (rpI ρ 0 0) 36 (i32 0)) from rfl, L2, hfin]
