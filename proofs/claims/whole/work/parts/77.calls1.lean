/-! the calls, one by one -/
theorem InvR.code {ro : Nat → Nat} {b c v : Nat} {ρ : RS} {μ : Mem} (x : Int32) (h : InvR ro b c v ρ μ) : InvR ro b c v (rpI ρ 0 x) μ := h
theorem Invt.code {b c v : Nat} {ρ : RS} {μ : Mem} (x : Int32) (h : Invt b c v ρ μ) : Invt b c v (rpI ρ 0 x) μ := h
theorem Is.up {ro : Nat → Nat} {μ : Mem} {a r : Nat} {e : ME} (h : Is ro μ a r e) : Is ro (m_up μ) a r e := h
theorem i32_pos {x : Int32} (h0 : ¬ x < 0) : ∃ k, x = i32 k ∧ k < 2 ^ 31 := by
  have h1 : 0 ≤ x.toInt := by
    have := i32_nlt.mp h0
    rw [Int32.le_iff_toInt_le] at this
    exact this
  have := x.toInt_lt
  exact ⟨x.toInt.toNat, i32_of h1, by omega⟩
/-- hit -/
theorem P_hit_eq {ro : Nat → Nat} {μ : Mem} {c lPl aX aY nc rt aT nt lC aW hH eE rR an : Nat} {ρ : RS} (h1 : Is ro μ c 2 (PFc lPl aX aY nc rt aT nt lC aW hH eE rR an)) (h2 : IH ro μ ρ hH) (x : Int32) : S_P_hit (some c) x μ = if 0 ≤ x ∧ x ≤ ri ρ 36 - 1 then some (.inr (ra ρ 37 x.toNatClampNeg), μ) else some (.inl 3, μ) := by
  obtain ⟨a, ak, n, f, g, g1, g2, g3, g4, g5, g6⟩ := h2
  unfold S_P_hit B_P_hit_15
  by_cases h0 : x < 0
  · rw [if_pos h0, if_neg (fun q => (i32_nlt.mpr q.1) h0)]
  · rw [if_neg h0, gR_at h1.1 rfl, b1_some, gI_at g1.1 rfl, b1_some, g2]
    obtain ⟨k, rfl, hk⟩ := i32_pos h0
    have hiff : (i32 k < i32 n) ↔ (0 ≤ i32 k ∧ i32 k ≤ i32 n - 1) := by
      rw [i32_lt hk (by omega)]
      constructor
      · intro q
        refine ⟨i32_nlt.mp h0, ?_⟩
        rw [show i32 n - 1 = i32 (n - 1) from i32_sub (b := 1) (by omega), i32_le hk (by omega)]
        omega
      · intro q
        have q2 := q.2
        rcases Nat.eq_zero_or_pos n with hn | hn
        · subst hn
          have := Int32.le_iff_toInt_le.mp q2
          rw [i32_int hk] at this
          have h3 : (i32 0 - 1 : Int32).toInt = -1 := rfl
          omega
        · rw [show i32 n - 1 = i32 (n - 1) from i32_sub (b := 1) (by omega), i32_le hk (by omega)] at q2
          omega
    by_cases hlt : i32 k < i32 n
    · have hkn := (i32_lt hk (by omega)).mp hlt
      rw [if_pos hlt, if_pos (hiff.mp hlt), b1_some, gR_at g1.1 rfl, b1_some, aI_at g4.1 (by omega) (by decide), b1_some, g6 k hkn, i32_nat hk]
    · rw [if_neg hlt, if_neg (fun q => hlt (hiff.mpr q))]
theorem call_hit {b c v : Nat} {ρ : RS} {μ : Mem} (hI : Invt b c v ρ μ) (hov : ov b ρ μ = μ) (x : Int32) : CallI (S_P_hit (some c) x) (R_M_hit x) [(3, 1)] b c v ρ μ := by
  have hI0 := hI
  obtain ⟨ro, N, pl, lPl, aX, aY, nc, rt, aT, nt, lC, aW, hH, eE, rR, an, h1, h2, h3, h4, h5, h6, h7, h8, h9, h10, h11, h12, h13, h14, h15, h16⟩ := hI
  have hR : R_M_hit x ρ = if 0 ≤ x ∧ x ≤ ri ρ 36 - 1 then some (ra ρ 37 x.toNatClampNeg, rpI ρ 0 0) else some (0, rpI ρ 0 1) := by
    unfold R_M_hit
    rw [R_in, b1_some, bI_if]
    by_cases hq : 0 ≤ x ∧ x ≤ ri ρ 36 - 1
    · rw [if_pos hq, if_pos hq]
      unfold RB_M_hit_20
      rw [b0_eq, if_pos (show ri (rpI ρ 0 0) 0 ≤ 0 from by show (0 : Int32) ≤ 0; decide)]
      obtain ⟨a, ak, n, f, g, g1, g2, g3, g4, g5, g6⟩ := h9
      obtain ⟨k, rfl, hk⟩ := i32_pos (i32_nlt.mpr hq.1)
      have hkn : k < 30 := by
        have q2 := hq.2
        rw [g2] at q2
        rcases Nat.eq_zero_or_pos n with hn | hn
        · subst hn
          have := Int32.le_iff_toInt_le.mp q2
          rw [i32_int hk] at this
          have h3 : (i32 0 - 1 : Int32).toInt = -1 := rfl
          omega
        · rw [show i32 n - 1 = i32 (n - 1) from i32_sub (b := 1) (by omega), i32_le hk (by omega)] at q2
          omega
      rw [rgI_at hkn (by decide), b1_some, i32_nat hk]
      rfl
    · rw [if_neg hq, if_neg hq]
      unfold RB_M_hit_20
      rw [b0_eq, if_neg (show ¬ ri (rpI ρ 0 1) 0 ≤ 0 from by show ¬ (1 : Int32) ≤ 0; decide)]
      rfl
  by_cases hq : 0 ≤ x ∧ x ≤ ri ρ 36 - 1
  · refine .inl ⟨ra ρ 37 x.toNatClampNeg, μ, rpI ρ 0 0, ?_, hov, ?_, rfl, hI0.code 0⟩
    · rw [P_hit_eq h1 h9 x, if_pos hq]
    · rw [hR, if_pos hq]
  · refine .inr ⟨3, m_up μ, 1, 0, rpI ρ 0 1, ?_, by decide, ?_, rfl, by decide, hI0.code 1⟩
    · rw [P_hit_eq (μ := m_up μ) h1.up h9 x, if_neg hq]
    · rw [hR, if_neg hq]
theorem posB {x y : Int32} (h : (0 ≤ x ∧ x ≤ 4095) ∧ 0 ≤ y ∧ y ≤ 4095) : inB x ∧ inB y := by
  unfold inB
  obtain ⟨⟨h1, h2⟩, h3, h4⟩ := h
  rw [Int32.le_iff_toInt_le] at h1 h2 h3 h4
  have e0 : (0 : Int32).toInt = 0 := rfl
  have e1 : (4095 : Int32).toInt = 4095 := rfl
  omega
/-- corner -/
theorem call_corner {b c v : Nat} {ρ : RS} {μ : Mem} (hI : Invt b c v ρ μ) (hov : ov b ρ μ = μ) (x y : Int32) : CallI (S_P_corner (some c) x y) (R_M_corner x y) [(0, 1), (1, 2)] b c v ρ μ := by
  have hI0 := hI
  obtain ⟨ro, N, pl, lPl, aX, aY, nc, rt, aT, nt, lC, aW, hH, eE, rR, an, h1, h2, h3, h4, h5, h6, h7, h8, h9, h10, h11, h12, h13, h14, h15, h16⟩ := hI
  have h4' := h4
  obtain ⟨g1, g2, fx, fy, g3, g4, g5⟩ := h4
  by_cases hp : (0 ≤ x ∧ x ≤ 4095) ∧ 0 ≤ y ∧ y ≤ 4095
  · by_cases h8' : nc < 8
    · have k1 : Ext (fun q => q = 2 ∨ q = 3 ∨ q = 4) ro μ ro (m_set μ aX (.inl (0, 8, .inl (upd fx nc x)))) := Ext.set h15 g3 (.inr (.inl rfl)) _
      have i1 := h1.keep g3 (by decide) (.inl (0, 8, .inl (upd fx nc x)))
      have x1 := g3.set ro (.inl (0, 8, .inl (upd fx nc x)))
      have y1 := g4.keep g3 (by decide) (.inl (0, 8, .inl (upd fx nc x)))
      have w1 := k1.wf
      have lo1 := k1.lo h15 h16
      have s1 : sI μ (some aX) 0 (i32 nc) x = some _ := sI_at x g3.1 (g3.low h16) h8' (by decide)
      generalize m_set μ aX (.inl (0, 8, .inl (upd fx nc x))) = μ1 at *
      have k2 : Ext (fun q => q = 2 ∨ q = 3 ∨ q = 4) ro μ1 ro (m_set μ1 aY (.inl (0, 8, .inl (upd fy nc y)))) := Ext.set w1 y1 (.inr (.inr rfl)) _
      have i2 := i1.keep y1 (by decide) (.inl (0, 8, .inl (upd fy nc y)))
      have x2 := x1.keep y1 (by decide) (.inl (0, 8, .inl (upd fy nc y)))
      have y2 := y1.set ro (.inl (0, 8, .inl (upd fy nc y)))
      have w2 := k2.wf
      have lo2 := k2.lo w1 lo1
      have s2 : sI μ1 (some aY) 0 (i32 nc) y = some _ := sI_at y y1.1 (y1.low lo1) h8' (by decide)
      generalize m_set μ1 aY (.inl (0, 8, .inl (upd fy nc y))) = μ2 at *
      have s3 : pV μ2 (some c) 11 3 (vI (i32 nc + 1)) = some (m_set μ2 c (PFc lPl aX aY (nc + 1) rt aT nt lC aW hH eE rR an)) := by
        rw [i32_succ]
        exact pV_at _ i2.1 (i2.low lo2) (show 3 < 13 by decide)
      have k3 : Ext (fun q => q = 2 ∨ q = 3 ∨ q = 4) ro μ2 ro (m_set μ2 c (PFc lPl aX aY (nc + 1) rt aT nt lC aW hH eE rR an)) := Ext.set w2 i2 (.inl rfl) _
      have i3 := i2.set ro (PFc lPl aX aY (nc + 1) rt aT nt lC aW hH eE rR an)
      have x3 := x2.keep i2 (by decide) (PFc lPl aX aY (nc + 1) rt aT nt lC aW hH eE rR an)
      have y3 := y2.keep i2 (by decide) (PFc lPl aX aY (nc + 1) rt aT nt lC aW hH eE rR an)
      have k := (k1.tr k2).tr k3
      refine .inl ⟨i32 (nc + 1), _, rpI (rset (rset (rpI ρ 0 0) 19 (upd (ra ρ 19) nc x)) 20 (upd (ra ρ 20) nc y)) 18 (i32 (nc + 1)), ?_, ov_keep hov h14 k (by decide), ?_, rfl, ⟨ro, N, pl, lPl, aX, aY, nc + 1, rt, aT, nt, lC, aW, hH, eE, rR, an, i3, h2.ext k (fun q hq => by omega), h3, ⟨rfl, h8', _, _, x3, y3, fun j hj => ?_⟩, h5.ext k (by decide), h6.ext k (by decide), h7.ext k (by decide) (by decide) (by decide), h8.ext k (fun q hq => by omega), h9.ext k (by decide) (by decide) (by decide), h10.ext k (by decide) (fun i _ => by omega), h11.ext k (by decide), h12.ext k (by decide), h13.ext k (by decide), h14.ext k, k.wf, k.lo h15 h16⟩⟩
      · unfold S_P_corner
        rw [S_arePosition, b1_some, if_neg (by rw [bI_pos hp]; decide), gI_at h1.1 rfl, b1_some, if_pos (show i32 nc < (8 : Int32) from (i32_lt (b := 8) (by omega) (by decide)).mpr h8'), gR_at h1.1 rfl, b1_some, b1_some, s1, b1_some, gR_at i1.1 rfl, b1_some, gI_at i1.1 rfl, b1_some, s2, b1_some, gI_at i2.1 rfl, b1_some, s3, b1_some, gI_at i3.1 rfl, b1_some]
      · unfold R_M_corner
        rw [R_isAt, b1_some, if_neg (by rw [bI_pos hp]; decide), g1, if_neg (show ¬ i32 nc = (8 : Int32) from fun q => by have := (i32_inj (b := 8) (by omega) (by decide)).mp q; omega)]
        unfold RB_M_corner_27
        rw [b0_eq, if_pos (show ri (rpI ρ 0 0) 0 ≤ 0 from by show (0 : Int32) ≤ 0; decide), show ri (rpI ρ 0 0) 18 = i32 nc from g1, rsI_at h8' (by decide), b1_some]
        rw [show ri (rset (rpI ρ 0 0) 19 (upd (ra (rpI ρ 0 0) 19) nc x)) 18 = i32 nc from g1, rsI_at h8' (by decide), b1_some, b0_eq]
        rw [show ri (rset (rset (rpI ρ 0 0) 19 (upd (ra (rpI ρ 0 0) 19) nc x)) 20 (upd (ra (rset (rpI ρ 0 0) 19 (upd (ra (rpI ρ 0 0) 19) nc x)) 20) nc y)) 18 = i32 nc from g1, i32_succ]
        rfl
      · have hb := posB hp
        show (upd fx nc x j = upd (ra ρ 19) nc x j ∧ upd fy nc y j = upd (ra ρ 20) nc y j) ∧ inB (upd (ra ρ 19) nc x j) ∧ inB (upd (ra ρ 20) nc y j)
        unfold upd
        by_cases hjn : j = nc
        · simp only [hjn, if_true, true_and]
          exact hb
        · simp only [hjn, if_false]
          exact g5 j (by omega)
    · refine .inr ⟨1, m_up μ, 2, 0, rpI ρ 0 2, ?_, by decide, ?_, rfl, by decide, hI0.code 2⟩
      · unfold S_P_corner
        rw [S_arePosition, b1_some, if_neg (by rw [bI_pos hp]; decide), gI_at h1.up.1 rfl, b1_some, if_neg (show ¬ i32 nc < (8 : Int32) from fun q => h8' ((i32_lt (b := 8) (by omega) (by decide)).mp q))]
      · unfold R_M_corner
        rw [R_isAt, b1_some, if_neg (by rw [bI_pos hp]; decide), g1, if_pos (show i32 nc = (8 : Int32) from by rw [show nc = 8 by omega]; rfl)]
        rfl
  · refine .inr ⟨0, m_up μ, 1, 0, rpI ρ 0 1, ?_, by decide, ?_, rfl, by decide, hI0.code 1⟩
    · unfold S_P_corner
      rw [S_arePosition, b1_some, if_pos (bI_neg hp)]
    · unfold R_M_corner
      rw [R_isAt, b1_some, if_pos (bI_neg hp)]
      rfl
