/-! place -/
def gPl (A N a : Nat) : Nat := 100 + 10 * N + (if a = A then 0 else if a = A + 1 then 1 else if a = A + 2 then 3 else if a = A + 3 then 4 else 6)
theorem AR.of {ro : Nat → Nat} {μ : Mem} {a r : Nat} (h : Is ro μ a r (.inr (0, [.ref (mD μ), .int 0, .int 0]))) (e : Nat → Nat) : AR ro μ a r 0 e := ⟨mD μ, 0, h, .inl ⟨rfl, rfl⟩⟩
theorem IP.cls {ro : Nat → Nat} {μ : Mem} {ρ : RS} {pl : Nat → Nat} {N i : Nat} (h : IP ro μ ρ pl N i) : ∃ ci fs, mF μ (pl i) = some (.inr (ci, fs)) ∧ ci ∈ [1, 2, 5, 6, 7] := by
  obtain ⟨sh, sd, nm, lk, h1, h2⟩ := h
  exact ⟨7, _, h1.1, by decide⟩
theorem call_place {b c v : Nat} {ρ : RS} {μ : Mem} (hI : Invt b c v ρ μ) (hov : ov b ρ μ = μ) (k : Int32) : CallI (S_P_place (some c) k) (R_M_place k) [(0, 1), (1, 2)] b c v ρ μ := by
  have hI0 := hI
  obtain ⟨ro, N, pl, lPl, aX, aY, nc, rt, aT, nt, lC, aW, hH, eE, rR, an, h1, h2, h3, h4, h5, h6, h7, h8, h9, h10, h11, h12, h13, h14, h15, h16⟩ := hI
  obtain ⟨g1, g2, g3, g4⟩ := h2
  by_cases hk : 0 ≤ k ∧ k ≤ 7
  · by_cases hN : N < 30
    · obtain ⟨μ', s1, fr, cA, c1, c2, c3, c4⟩ := Pl_init_eq h15 (i32 N) k
      have e1 : Ext (fun q => q = 6 ∨ q = 7) ro μ (roN ro (mN μ) (gPl (mN μ) N)) μ' := fr.ext h15 ro _
      have r0 : roN ro (mN μ) (gPl (mN μ) N) (mN μ) = 100 + 10 * N := by rw [roN_new (Nat.le_refl _)]; simp [gPl]
      have r1 : roN ro (mN μ) (gPl (mN μ) N) (mN μ + 1) = 100 + 10 * N + 1 := by rw [roN_new (by omega)]; simp [gPl]
      have r2 : roN ro (mN μ) (gPl (mN μ) N) (mN μ + 2) = 100 + 10 * N + 3 := by rw [roN_new (by omega)]; simp [gPl]
      have r3 : roN ro (mN μ) (gPl (mN μ) N) (mN μ + 3) = 100 + 10 * N + 4 := by rw [roN_new (by omega)]; simp [gPl]
      have r4 : roN ro (mN μ) (gPl (mN μ) N) (mN μ + 4) = 100 + 10 * N + 6 := by rw [roN_new (by omega)]; simp [gPl]
      have g3' := g3
      have m43 : gR (m_push μ (.inr (7, [.int 0, .int 0, .int 0, .null, .null, .null, .null]))) (some c) 11 0 = some (some lPl) := gR_at (h1.old h15 0 _).1 rfl
      have a43 := g3.ext (Ext.push (W := fun _ => False) h15 0 (.inr (7, [.int 0, .int 0, .int 0, .null, .null, .null, .null]))) (fun q => q) (fun q => q)
      generalize roN ro (mN μ) (gPl (mN μ) N) = ro1 at *
      have w1 := e1.wf
      have lo1 := e1.lo h15 h16
      have fD := fr.mdD
      rw [← fD] at c1 c3 c4
      have a1 : AR ro1 μ' lPl 6 N pl := g3.ext (W := fun _ => False) ⟨e1.1, e1.2.1, e1.2.2.1, e1.2.2.2.1, e1.2.2.2.2.1, fun a e ha => ⟨(e1.2.2.2.2.2 a e ha).1, (e1.2.2.2.2.2 a e ha).2.1, fun _ => (fr.2.2.2.2 a (h15.lt ha)).trans ha⟩⟩ (fun q => q) (fun q => q)
      obtain ⟨ro2, μ2, s2, e2, a2⟩ := Al_add_eq w1 lo1 a1 hN cA (by decide) (fun j hj => ((g4 j hj).ext e1 (by decide) (fun q _ => by omega)).cls)
      have e := e1.tr e2
      have i2 := h1.ext e (by decide)
      have hnew : IP ro2 μ2 (rpI (rset (rset (rpI ρ 0 0) 2 (upd (ra ρ 2) N k)) 3 (upd (ra ρ 3) N 10000)) 1 (i32 (N + 1))) (fun j => if j = N then mN μ else pl j) (N + 1) N := by
        obtain ⟨z4, z9, z14⟩ := h3.1 N (Nat.le_refl _) hN
        refine ⟨mN μ + 1, mN μ + 2, mN μ + 3, mN μ + 4, ?_, ⟨0, id, (fun _ => 0), z4, by decide, ?_, ?_, fun k hk => absurd hk (Nat.not_lt_zero k), fun k hk => absurd hk (Nat.not_lt_zero k)⟩, ⟨0, id, z9, by decide, ?_, fun k hk => absurd hk (Nat.not_lt_zero k)⟩, ⟨0, id, z14, by decide, ?_, fun k hk => absurd hk (Nat.not_lt_zero k)⟩⟩
        · show Is ro2 μ2 (if N = N then mN μ else pl N) (100 + 10 * N) (.inr (7, PC7 (i32 N) (upd (ra ρ 2) N k N) (upd (ra ρ 3) N 10000 N) _ _ _ _))
          rw [if_pos rfl, upd_at, upd_at]
          exact Is.ext (ro := ro1) ⟨cA, r0⟩ e2 (by omega)
        · exact (AR.of (ro := ro1) ⟨c1, r1⟩ id).ext e2 (by omega) (by omega)
        · exact Is.ext (ro := ro1) ⟨c2, r2⟩ e2 (by omega)
        · exact (AR.of (ro := ro1) ⟨c3, r3⟩ id).ext e2 (by omega) (by omega)
        · exact (AR.of (ro := ro1) ⟨c4, r4⟩ id).ext e2 (by omega) (by omega)
      refine .inl ⟨i32 (N + 1) - 1, μ2, rpI (rset (rset (rpI ρ 0 0) 2 (upd (ra ρ 2) N k)) 3 (upd (ra ρ 3) N 10000)) 1 (i32 (N + 1)), ?_, ov_keep hov h14 e (by decide), ?_, rfl, ⟨ro2, N + 1, (fun j => if j = N then mN μ else pl j), lPl, aX, aY, nc, rt, aT, nt, lC, aW, hH, eE, rR, an, i2, ⟨rfl, hN, a2, fun i hi => ?_⟩, ?_, h4.ext e (by decide) (by decide), h5.ext e (by decide), h6.ext e (by decide), (h7.ext e (by decide) (by decide) (by decide)).rho (Nat.le_succ N) rfl (fun k hk => ⟨rfl, rfl, rfl, rfl, rfl, fun _ _ => rfl⟩), ?_, h9.ext e (by decide) (by decide) (by decide), h10.ext e (by decide) (fun i _ => by omega), h11.ext e (by decide), h12.ext e (by decide), h13.ext e (by decide), h14.ext e, e.wf, e.lo h15 h16⟩⟩
      · unfold S_P_place
        rw [S_isKind, b1_some, if_neg (by rw [bI_pos hk]; decide), gR_at h1.1 rfl, b1_some, g3'.rc, b1_some, g3'.size, b1_some, if_pos (show i32 N < (30 : Int32) from (i32_lt (b := 30) (by omega) (by decide)).mpr hN), b1_some]
        show b1 (gR (m_push μ (.inr (7, [.int 0, .int 0, .int 0, .null, .null, .null, .null]))) (some c) 11 0) _ = _
        rw [m43, b1_some, a43.rc, b1_some, a43.size, b1_some, rc_at (push_at _ _), b1_some, s1, b2_some, a1.rc, b1_some, s2, b2_some, gR_at i2.1 rfl, b1_some, a2.rc, b1_some, a2.size, b1_some]
      · unfold R_M_place
        rw [R_in, b1_some, if_neg (by rw [bI_pos hk]; decide), g1, if_neg (show ¬ i32 N = (30 : Int32) from fun q => by have := (i32_inj (b := 30) (by omega) (by decide)).mp q; omega)]
        unfold RB_M_place_29
        rw [b0_eq, if_pos (show ri (rpI ρ 0 0) 0 ≤ 0 from by show (0 : Int32) ≤ 0; decide), show ri (rpI ρ 0 0) 1 = i32 N from g1, rsI_at hN (by decide), b1_some]
        rw [show ri (rset (rpI ρ 0 0) 2 (upd (ra (rpI ρ 0 0) 2) N k)) 1 = i32 N from g1, rsI_at hN (by decide), b1_some, b0_eq]
        rw [show ri (rset (rset (rpI ρ 0 0) 2 (upd (ra (rpI ρ 0 0) 2) N k)) 3 (upd (ra (rset (rpI ρ 0 0) 2 (upd (ra (rpI ρ 0 0) 2) N k)) 3) N 10000)) 1 = i32 N from g1, i32_succ]
        rfl
      · by_cases hiN : i = N
        · subst hiN
          exact hnew
        · obtain ⟨sh', sd', nm', lk', p1, p2, p3, p4⟩ := (g4 i (by omega)).ext e (by decide) (fun q _ => by omega)
          refine ⟨sh', sd', nm', lk', ?_, p2, p3, p4.rho (Nat.le_succ N) (fun j hj => if_neg (by omega)) rfl (fun _ _ => ⟨rfl, rfl, rfl⟩)⟩
          show Is ro2 μ2 (if i = N then mN μ else pl i) (100 + 10 * i) (.inr (7, PC7 (i32 i) (upd (ra ρ 2) N k i) (upd (ra ρ 3) N 10000 i) sh' sd' nm' lk'))
          rw [if_neg hiN, upd_ne _ _ hiN, upd_ne _ _ hiN]
          exact p1
      · obtain ⟨q1, q2, q3, q4⟩ := h3
        have z14 : nSp ρ N = 0 := by
          unfold nSp
          rw [(q1 N (Nat.le_refl _) hN).2.2]
          rfl
        refine ⟨fun i hi hi2 => q1 i (by omega) hi2, fun i hi j l hj hl => ?_, fun i hi l hl => ?_, fun day i m hi => ?_⟩
        · by_cases hiN : i = N
          · subst hiN
            have : j < nSp ρ i := hj
            omega
          · exact q2 i (by omega) j l hj hl
        · by_cases hiN : i = N
          · subst hiN
            have : l < nSp ρ i := hl
            omega
          · exact q3 i (by omega) l hl
        · by_cases hiN : i = N
          · subst hiN
            have hu : upD ρ day i = none := by
              unfold upD
              rw [z14]
              rfl
            show (upD ρ day i).bind _ ≠ _
            rw [hu]
            exact nofun
          · exact q4 day i m (by omega)
      · obtain ⟨f, w1, w2⟩ := h8.ext e (fun q hq => by omega)
        refine ⟨f, w1, fun w hw => (w2 w hw).rho (Nat.le_succ _) rfl rfl rfl rfl (fun k hk => ⟨rfl, rfl, rfl, rfl, rfl, fun _ _ => rfl⟩) rfl (fun _ _ => ⟨rfl, rfl⟩)⟩
    · refine .inr ⟨1, m_up μ, 2, 0, rpI ρ 0 2, ?_, by decide, ?_, rfl, by decide, hI0.code 2⟩
      · unfold S_P_place
        rw [S_isKind, b1_some, if_neg (by rw [bI_pos hk]; decide), gR_at h1.up.1 rfl, b1_some, AR.rc (μ := m_up μ) g3, b1_some, AR.size (μ := m_up μ) g3, b1_some, if_neg (show ¬ i32 N < (30 : Int32) from fun q => hN ((i32_lt (b := 30) (by omega) (by decide)).mp q))]
      · unfold R_M_place
        rw [R_in, b1_some, if_neg (by rw [bI_pos hk]; decide), g1, if_pos (show i32 N = (30 : Int32) from by rw [show N = 30 by omega]; rfl)]
        rfl
  · refine .inr ⟨0, m_up μ, 1, 0, rpI ρ 0 1, ?_, by decide, ?_, rfl, by decide, hI0.code 1⟩
    · unfold S_P_place
      rw [S_isKind, b1_some, if_pos (bI_neg hk)]
    · unfold R_M_place
      rw [R_in, b1_some, if_pos (bI_neg hk)]
      rfl
