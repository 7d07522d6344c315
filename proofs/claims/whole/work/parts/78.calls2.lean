/-! letter, clear, remove, place, route -/
theorem upd_at (f : Nat → Int32) (k : Nat) (x : Int32) : upd f k x k = x := if_pos rfl
theorem upd_ne (f : Nat → Int32) {k j : Nat} (x : Int32) (h : j ≠ k) : upd f k x j = f j := if_neg h
theorem ch_fin : ∀ d, d < 26 → vp_nar .char (((i32 (97 + d) : Int32).toUInt32 % 65536).toInt32) = i32 (97 + d) := by decide
theorem ltr_of {x : Int32} (h1 : ¬ x < 97) (h2 : ¬ 122 < x) : (97 ≤ x.toInt ∧ x.toInt ≤ 122) ∧ vp_nar .char (((x : Int32).toUInt32 % 65536).toInt32) = x := by
  rw [i32_nlt, Int32.le_iff_toInt_le] at h1 h2
  have e0 : (97 : Int32).toInt = 97 := rfl
  have e1 : (122 : Int32).toInt = 122 := rfl
  refine ⟨by omega, ?_⟩
  have hx : x = i32 (97 + (x.toInt.toNat - 97)) := by
    rw [← Int32.toInt_inj, i32_int (by omega)]
    omega
  rw [hx]
  exact ch_fin _ (by omega)
theorem call_letter {b c v : Nat} {ρ : RS} {μ : Mem} (hI : Invt b c v ρ μ) (hov : ov b ρ μ = μ) (x : Int32) : CallN (S_P_letter (some c) x) (R_M_letter x) b c v ρ μ := by
  have hI0 := hI
  obtain ⟨ro, N, pl, lPl, aX, aY, nc, rt, aT, nt, lC, aW, hH, eE, rR, an, h1, h2, h3, h4, h5, h6, h7, h8, h9, h10, h11, h12, h13, h14, h15, h16⟩ := hI
  obtain ⟨g1, g2, f, g3, g4, g5⟩ := h6
  by_cases q1 : x < 97
  · refine ⟨0, μ, rpI ρ 0 0, ?_, hov, ?_, hI0.code 0⟩
    · unfold S_P_letter
      rw [if_pos q1]
      rfl
    · unfold R_M_letter
      rw [b0_eq, if_pos q1]
      rfl
  by_cases q2 : 122 < x
  · refine ⟨0, μ, rpI ρ 0 0, ?_, hov, ?_, hI0.code 0⟩
    · unfold S_P_letter
      rw [if_neg q1, if_pos q2]
      rfl
    · unfold R_M_letter
      rw [b0_eq, if_neg q1, if_pos q2]
      rfl
  by_cases q3 : nt < 10
  · have k1 : Ext (fun q => q = 2 ∨ q = 5) ro μ ro (m_set μ aT (.inl (2, 10, .inl (upd f nt x)))) := Ext.set h15 g3 (.inr rfl) _
    have i1 := h1.keep g3 (by decide) (.inl (2, 10, .inl (upd f nt x)))
    have x1 := g3.set ro (.inl (2, 10, .inl (upd f nt x)))
    have w1 := k1.wf
    have lo1 := k1.lo h15 h16
    have s1 : sI μ (some aT) 2 (i32 nt) x = some _ := sI_at x g3.1 (g3.low h16) q3 (by decide)
    generalize m_set μ aT (.inl (2, 10, .inl (upd f nt x))) = μ1 at *
    have s3 : pV μ1 (some c) 11 6 (vI (i32 nt + 1)) = some (m_set μ1 c (PFc lPl aX aY nc rt aT (nt + 1) lC aW hH eE rR an)) := by
      rw [i32_succ]
      exact pV_at _ i1.1 (i1.low lo1) (show 6 < 13 by decide)
    have k2 : Ext (fun q => q = 2 ∨ q = 5) ro μ1 ro (m_set μ1 c (PFc lPl aX aY nc rt aT (nt + 1) lC aW hH eE rR an)) := Ext.set w1 i1 (.inl rfl) _
    have i3 := i1.set ro (PFc lPl aX aY nc rt aT (nt + 1) lC aW hH eE rR an)
    have x3 := x1.keep i1 (by decide) (PFc lPl aX aY nc rt aT (nt + 1) lC aW hH eE rR an)
    have k := k1.tr k2
    refine ⟨1, _, rpI (rset (rpI ρ 0 0) 22 (upd (ra ρ 22) nt x)) 21 (i32 (nt + 1)), ?_, ov_keep hov h14 k (by decide), ?_, ⟨ro, N, pl, lPl, aX, aY, nc, rt, aT, nt + 1, lC, aW, hH, eE, rR, an, i3, h2.ext k (fun q hq => by omega), h3, h4.ext k (by decide) (by decide), h5.ext k (by decide), ⟨rfl, q3, _, x3, fun j hj => ?_, ?_⟩, h7.ext k (by decide) (by decide) (by decide), h8.ext k (fun q hq => by omega), h9.ext k (by decide) (by decide) (by decide), h10.ext k (by decide) (fun i _ => by omega), h11.ext k (by decide), h12.ext k (by decide), h13.ext k (by decide), h14.ext k, k.wf, k.lo h15 h16⟩⟩
    · unfold S_P_letter
      rw [if_neg q1, if_neg q2, gI_at h1.1 rfl, b1_some, if_pos (show i32 nt < (10 : Int32) from (i32_lt (b := 10) (by omega) (by decide)).mpr q3), gR_at h1.1 rfl, b1_some, b1_some, (ltr_of q1 q2).2, s1, b1_some, gI_at i1.1 rfl, b1_some, s3, b1_some]
      rfl
    · unfold R_M_letter
      rw [b0_eq, if_neg q1, if_neg q2, show ri (rpI ρ 0 0) 21 = i32 nt from g1, if_neg (show ¬ i32 nt = (10 : Int32) from fun q => by have := (i32_inj (b := 10) (by omega) (by decide)).mp q; omega), rsI_at q3 (by decide), b1_some, b0_eq]
      rw [show ri (rset (rpI ρ 0 0) 22 (upd (ra (rpI ρ 0 0) 22) nt x)) 21 = i32 nt from g1, i32_succ]
      rfl
    · show upd f nt x j = upd (ra ρ 22) nt x j
      by_cases hj2 : j = nt
      · rw [hj2, upd_at, upd_at]
      · rw [upd_ne _ _ hj2, upd_ne _ _ hj2]
        exact g4 j (by omega)
    · refine ⟨q3, fun j hj => ?_⟩
      show 97 ≤ (upd (ra ρ 22) nt x j).toInt ∧ (upd (ra ρ 22) nt x j).toInt ≤ 122
      by_cases hj2 : j = nt
      · rw [hj2, upd_at]
        exact (ltr_of q1 q2).1
      · rw [upd_ne _ _ hj2]
        exact g5.2 j (by omega)
  · refine ⟨0, μ, rpI ρ 0 0, ?_, hov, ?_, hI0.code 0⟩
    · unfold S_P_letter
      rw [if_neg q1, if_neg q2, gI_at h1.1 rfl, b1_some, if_neg (show ¬ i32 nt < (10 : Int32) from fun q => q3 ((i32_lt (b := 10) (by omega) (by decide)).mp q))]
      rfl
    · unfold R_M_letter
      rw [b0_eq, if_neg q1, if_neg q2, show ri (rpI ρ 0 0) 21 = i32 nt from g1, if_pos (show i32 nt = (10 : Int32) from by rw [show nt = 10 by omega]; rfl)]
      rfl
theorem call_clear {b c v : Nat} {ρ : RS} {μ : Mem} (hI : Invt b c v ρ μ) (hov : ov b ρ μ = μ) : CallN (S_P_clear (some c)) R_M_clear b c v ρ μ := by
  obtain ⟨ro, N, pl, lPl, aX, aY, nc, rt, aT, nt, lC, aW, hH, eE, rR, an, h1, h2, h3, h4, h5, h6, h7, h8, h9, h10, h11, h12, h13, h14, h15, h16⟩ := hI
  obtain ⟨n, cq, c1, c2, c3, c4⟩ := h7
  obtain ⟨μ', s1, k, a1⟩ := Al_clear_eq h15 h16 c3 cq
  refine ⟨(), μ', rset (rpI ρ 0 0) 23 (upd (ra ρ 23) 0 0), ?_, ov_keep hov h14 k (by decide), ?_, ⟨ro, N, pl, lPl, aX, aY, nc, rt, aT, nt, lC, aW, hH, eE, rR, an, h1.ext k (by decide), h2.ext k (fun q hq => by omega), h3, h4.ext k (by decide) (by decide), h5.ext k (by decide), h6.ext k (by decide), ⟨0, cq, rfl, by decide, a1, fun k hk => absurd hk (Nat.not_lt_zero k)⟩, ?_, h9.ext k (by decide) (by decide) (by decide), h10.ext k (by decide) (fun i _ => by omega), h11.ext k (by decide), h12.ext k (by decide), h13.ext k (by decide), h14.ext k, k.wf, k.lo h15 h16⟩⟩
  · unfold S_P_clear
    rw [gR_at h1.1 rfl, b1_some, c3.rc, b1_some, s1, b2_some]
  · unfold R_M_clear
    rw [b0_eq, show rsI (rpI ρ 0 0) 23 5 0 0 = rsI (rpI ρ 0 0) 23 5 (i32 0) 0 from rfl, rsI_at (by decide) (by decide), b1_some]
    rfl
  · obtain ⟨f, w1, w2⟩ := h8.ext k (fun q hq => by omega)
    refine ⟨f, w1, fun w hw => (w2 w hw).rho (Nat.le_refl _) rfl rfl rfl (upd_ne (ra ρ 23) 0 (Nat.succ_ne_zero w)) (fun k hk => ⟨rfl, rfl, rfl, rfl, rfl, fun _ _ => rfl⟩) rfl (fun _ _ => ⟨rfl, rfl⟩)⟩
theorem some_ne (a : Nat) : ¬ (some a = none) := nofun
/-- the place of a number -/
theorem P_placeOf_eq {ro : Nat → Nat} {μ : Mem} {c lPl aX aY nc rt aT nt lC aW hH eE rR an N : Nat} {ρ : RS} {pl : Nat → Nat} (h1 : Is ro μ c 2 (PFc lPl aX aY nc rt aT nt lC aW hH eE rR an)) (h2 : IPs ro μ ρ pl N lPl) (id : Int32) : S_P_placeOf (some c) id μ = some (if 0 ≤ id ∧ id < i32 N then some (pl id.toNatClampNeg) else none) := by
  obtain ⟨g1, g2, g3, g4⟩ := h2
  unfold S_P_placeOf B_P_placeOf_29 B_P_placeOf_30
  by_cases h0 : id < 0
  · rw [if_pos h0, if_neg (fun q => (i32_nlt.mpr q.1) h0)]
  · rw [if_neg h0, gR_at h1.1 rfl, b1_some, g3.rc, b1_some, g3.size, b1_some]
    obtain ⟨k, rfl, hk⟩ := i32_pos h0
    by_cases hk2 : k < N
    · rw [if_neg (fun q => by have := (i32_le (by omega) hk).mp q; omega), if_pos ⟨i32_nlt.mp h0, (i32_lt hk (by omega)).mpr hk2⟩, i32_nat hk, b1_some, g3.rc, b1_some, g3.get hk2, b1_some]
      obtain ⟨sh, sd, nm, lk, q1, q2⟩ := g4 k hk2
      rw [cK_at q1.1, b1_some]
    · rw [if_pos ((i32_le (by omega) hk).mpr (by omega)), if_neg (fun q => hk2 ((i32_lt hk (by omega)).mp q.2))]
theorem id_of {id : Int32} {N : Nat} (hN : N ≤ 30) (h : 0 ≤ id ∧ id < i32 N) : ∃ i, id = i32 i ∧ i < N := by
  obtain ⟨k, rfl, hk⟩ := i32_pos (i32_nlt.mpr h.1)
  exact ⟨k, rfl, (i32_lt hk (by omega)).mp h.2⟩
theorem call_remove {b c v : Nat} {ρ : RS} {μ : Mem} (hI : Invt b c v ρ μ) (hov : ov b ρ μ = μ) (x y : Int32) : CallU (S_P_remove (some c) x y) (R_M_remove x y) [(0, 1), (1, 2)] b c v ρ μ := by
  have hI0 := hI
  obtain ⟨ro, N, pl, lPl, aX, aY, nc, rt, aT, nt, lC, aW, hH, eE, rR, an, h1, h2, h3, h4, h5, h6, h7, h8, h9, h10, h11, h12, h13, h14, h15, h16⟩ := hI
  have h2' := h2
  obtain ⟨g1, g2, g3, g4⟩ := h2
  have hbad : ¬ ((0 ≤ x ∧ x < i32 N) ∧ 0 ≤ y ∧ y ≤ 9999) → CallU (S_P_remove (some c) x y) (R_M_remove x y) [(0, 1), (1, 2)] b c v ρ μ := by
    intro hb
    refine .inr ⟨0, m_up μ, 1, rpI ρ 0 1, ?_, by decide, ?_, rfl, by decide, hI0.code 1⟩
    · unfold S_P_remove B_P_remove_17
      rw [rc_at h1.up.1, b1_some, P_placeOf_eq (μ := m_up μ) h1.up h2' x, b1_some]
      by_cases hx : 0 ≤ x ∧ x < i32 N
      · rw [if_pos hx, if_neg (some_ne _), S_isDay, b1_some, if_pos (bI_neg (fun q => hb ⟨hx, q⟩))]
      · rw [if_neg hx, if_pos rfl]
    · unfold R_M_remove RB_M_remove_16
      rw [R_isPlace g1 g2, b1_some]
      by_cases hx : 0 ≤ x ∧ x < i32 N
      · rw [if_neg (by rw [bI_pos hx]; decide), R_isDay, b1_some, if_pos (bI_neg (fun q => hb ⟨hx, q⟩))]
        rfl
      · rw [if_pos (bI_neg hx)]
        rfl
  by_cases hx : 0 ≤ x ∧ x < i32 N
  · by_cases hy : 0 ≤ y ∧ y ≤ 9999
    · obtain ⟨i, rfl, hi⟩ := id_of g2 hx
      obtain ⟨sh, sd, nm, lk, q1, q2, q3, q4⟩ := g4 i hi
      by_cases hr : ra ρ 3 i ≤ y
      · refine .inr ⟨1, m_up μ, 2, rpI ρ 0 2, ?_, by decide, ?_, rfl, by decide, hI0.code 2⟩
        · unfold S_P_remove B_P_remove_17
          rw [rc_at h1.up.1, b1_some, P_placeOf_eq (μ := m_up μ) h1.up h2' _, b1_some, if_pos hx, if_neg (some_ne _), S_isDay, b1_some, if_neg (by rw [bI_pos hy]; decide), i32_nat (by omega), rc_at q1.up.1, b1_some, Pl_isRemovedOn_eq q1.up.1, b1_some, if_neg (by rw [bI_pos hr]; decide)]
        · unfold R_M_remove
          rw [R_isPlace g1 g2, b1_some, if_neg (by rw [bI_pos hx]; decide), R_isDay, b1_some, if_neg (by rw [bI_pos hy]; decide), rgI_at (by omega) (by decide), b1_some, if_neg (i32_nlt.mpr hr)]
          rfl
      · have k : Ext (fun q => q = 100 + 10 * i) ro μ ro (m_set μ (pl i) (.inr (7, PC7 (i32 i) (ra ρ 2 i) y sh sd nm lk))) := Ext.set (W := fun q => q = 100 + 10 * i) h15 q1 rfl _
        have i1 := q1.set ro (.inr (7, PC7 (i32 i) (ra ρ 2 i) y sh sd nm lk))
        have s1 : pV μ (some (pl i)) 7 2 (vI y) = some (m_set μ (pl i) (.inr (7, PC7 (i32 i) (ra ρ 2 i) y sh sd nm lk))) := pV_at _ q1.1 (q1.low h16) (show 2 < 7 by decide)
        refine .inl ⟨_, rset (rpI ρ 0 0) 3 (upd (ra ρ 3) i y), ?_, ov_keep hov h14 k (by omega), ?_, rfl, ⟨ro, N, pl, lPl, aX, aY, nc, rt, aT, nt, lC, aW, hH, eE, rR, an, h1.ext k (by omega), ⟨g1, g2, g3.ext k (by omega) (by omega), fun j hj => ?_⟩, h3, h4.ext k (by omega) (by omega), h5.ext k (by omega), h6.ext k (by omega), h7.ext k (by omega) (by omega) (by omega), h8.ext k (fun q hq => by omega), h9.ext k (by omega) (by omega) (by omega), h10.ext k (by omega) (fun i _ => by omega), h11.ext k (by omega), h12.ext k (by omega), h13.ext k (by omega), h14.ext k, k.wf, k.lo h15 h16⟩⟩
        · unfold S_P_remove
          rw [rc_at h1.1, b1_some, P_placeOf_eq h1 h2' _, b1_some, if_pos hx, if_neg (some_ne _), S_isDay, b1_some, if_neg (by rw [bI_pos hy]; decide), i32_nat (by omega), rc_at q1.1, b1_some, Pl_isRemovedOn_eq q1.1, b1_some, if_pos (bI_neg hr), s1, b1_some]
        · unfold R_M_remove
          rw [R_isPlace g1 g2, b1_some, if_neg (by rw [bI_pos hx]; decide), R_isDay, b1_some, if_neg (by rw [bI_pos hy]; decide), rgI_at (by omega) (by decide), b1_some, if_pos (i32_nle.mp hr)]
          unfold RB_M_remove_35
          rw [b0_eq, if_pos (show ri (rpI ρ 0 0) 0 = 0 from rfl), rsI_at (by omega) (by decide), b1_some]
          rfl
        · by_cases hji : j = i
          · subst hji
            refine ⟨sh, sd, nm, lk, ?_, q2.ext k (by omega) (fun q _ _ => by omega), q3.ext k (by omega) (fun q _ _ => by omega), q4.ext k (by omega) (fun q _ _ => by omega)⟩
            show Is ro _ (pl j) (100 + 10 * j) (.inr (7, PC7 (i32 j) (ra ρ 2 j) (upd (ra ρ 3) j y j) sh sd nm lk))
            rw [upd_at]
            exact i1
          · obtain ⟨sh', sd', nm', lk', p1, p2, p3, p4⟩ := (g4 j hj).ext k (by omega) (fun q _ => by omega)
            refine ⟨sh', sd', nm', lk', ?_, p2, p3, p4⟩
            show Is ro _ (pl j) (100 + 10 * j) (.inr (7, PC7 (i32 j) (ra ρ 2 j) (upd (ra ρ 3) i y j) sh' sd' nm' lk'))
            rw [upd_ne _ _ hji]
            exact p1
    · exact hbad (fun q => hy q.2)
  · exact hbad (fun q => hx q.1)
