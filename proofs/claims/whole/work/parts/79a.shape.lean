/-! shape -/
theorem WF.up {μ : Mem} (w : WF μ) : WF (m_up μ) := ⟨⟨Nat.lt_of_lt_of_le w.1.1 w.1.2, Nat.le_refl _⟩, w.2⟩
theorem Pl_takes_eq {ro : Nat → Nat} {μ : Mem} {a i sh sd nm lk n : Nat} {num kind rem : Int32} {co : Nat → Nat} {D : Nat → Int32} (hp : mF μ a = some (.inr (7, PC7 num kind rem sh sd nm lk))) (hl : AR ro μ sh i n co) (hd : mF μ sd = some (.inl (0, 3, .inl D))) (h3 : n ≤ 3) (y : Int32) : S_Pl_takesShapeFrom (some a) y μ = some (bI (n < 3 ∧ (n = 0 ∨ ¬ y ≤ D (n - 1)))) := by
  unfold S_Pl_takesShapeFrom B_Pl_takesShapeFrom_33 B_Pl_takesShapeFrom_29 B_Pl_takesShapeFrom_34
  rw [gR_at hp rfl, b1_some, hl.rc, b1_some, hl.size, b1_some, gd0, gd1]
  by_cases h1 : n < 3
  · rw [if_neg (show ¬ (3 : Int32) ≤ i32 n from fun q => by have := (i32_le (a := 3) (by decide) (by omega)).mp q; omega)]
    by_cases h0 : n = 0
    · subst h0
      rw [if_pos (show i32 0 = 0 from rfl), bI_pos ⟨by omega, .inl rfl⟩]
    · rw [if_neg (show ¬ i32 n = 0 from fun q => h0 ((i32_inj (b := 0) (by omega) (by decide)).mp q)), gR_at hp rfl, b1_some, show i32 n - 1 = i32 (n - 1) from i32_sub (b := 1) (by omega), aI_at hd (by omega) (by decide), b1_some]
      by_cases hy : y ≤ D (n - 1)
      · rw [if_pos hy, bI_neg (fun q => q.2.elim h0 (fun q2 => q2 hy))]
      · rw [if_neg hy, bI_pos ⟨h1, .inr hy⟩]
  · rw [if_pos (show (3 : Int32) ≤ i32 n from (i32_le (a := 3) (by decide) (by omega)).mpr (by omega)), bI_neg (fun q => h1 q.1)]
/-- up to the new corners -/
theorem P_shape_mid {ro : Nat → Nat} {μ : Mem} {c lPl aX aY nc rt aT nt lC aW hH eE rR an N i : Nat} {ρ : RS} {pl : Nat → Nat} (w : WF μ) (h1 : Is ro μ c 2 (PFc lPl aX aY nc rt aT nt lC aW hH eE rR an)) (h2 : IPs ro μ ρ pl N lPl) (h4 : IK ro μ ρ aX aY nc) (hDx : aX ≠ mD μ) (hDy : aY ≠ mD μ) (hi : i < N) {y : Int32} (hy : 0 ≤ y ∧ y ≤ 9999) : ∃ μ', Fr (mN μ) μ μ' ∧ CO0 (roN ro (mN μ) (fun _ => 0)) μ' (mN μ) nc (ra ρ 19) (ra ρ 20) ∧ S_P_shape (some c) (i32 i) y μ = if nc = 1 ∨ (3 ≤ nc ∧ surf nc (ra ρ 19) (ra ρ 20) nc 0 0 ≠ 0) then B_P_shape_74 (some c) y (some (pl i)) (some (mN μ)) μ' else some (.inl 0, μ') := by
  obtain ⟨g1, g2, fx, fy, g3, g4, g5⟩ := h4
  obtain ⟨μ', s1, fr, hco⟩ := Co_init_eq (n := nc) w g3.1 g4.1 hDx hDy g2 g2 (by decide) (by decide)
  have hco := (hco ro).fn (X' := ra ρ 19) (Y' := ra ρ 20) (fun k hk => (g5 k hk).1)
  refine ⟨μ', fr, hco, ?_⟩
  have p1 := Is.old h1 w 0 (.inr (2, [.int 0, .null, .null]))
  have hN := h2.2.1
  have hx : 0 ≤ i32 i ∧ i32 i < i32 N := ⟨i32_nlt.mp (i32_nn (by omega)), (i32_lt (by omega) (by omega)).mpr hi⟩
  obtain ⟨fs, hc⟩ := hco.co.cell
  unfold S_P_shape
  rw [rc_at h1.1, b1_some, P_placeOf_eq h1 h2, b1_some, if_pos hx, if_neg (some_ne _), S_isDay, b1_some, if_neg (by rw [bI_pos hy]; decide), i32_nat (by omega)]
  show b1 (gR (m_push μ (.inr (2, [.int 0, .null, .null]))) (some c) 11 1) _ = _
  rw [gR_at p1.1 rfl, b1_some, gR_at p1.1 rfl, b1_some, gI_at p1.1 rfl, b1_some, rc_at (push_at _ _), b1_some, s1, b2_some, rc_at hc, b1_some, Co_isPoint_eq hco.co, b1_some]
  by_cases hn1 : nc = 1
  · rw [if_neg (by rw [bI_pos hn1]; decide), if_pos (.inl hn1)]
  · rw [if_pos (bI_neg hn1), b1_some, Co_isArea_eq hco.co, b1_some]
    by_cases ha : 3 ≤ nc ∧ surf nc (ra ρ 19) (ra ρ 20) nc 0 0 ≠ 0
    · rw [if_neg (by rw [bI_pos ha]; decide), if_pos (.inr ha)]
    · rw [if_pos (bI_neg ha), if_neg (fun q => q.elim hn1 ha)]
theorem R_shp {n s i : Nat} (h8 : n ≤ 8) (hs : s < 90) (hi : i < 30) (m : Nat) : ∀ (k fuel : Nat) (ρ : RS), ri ρ 18 = i32 n → k + m = n → m < fuel → ∃ f g, RB_M_shape_140 fuel (i32 i) (i32 s) (i32 k) ρ = some ((), rpI (rset (rset (rset ρ 7 f) 8 g) 4 (upd (ra ρ 4) i (ra ρ 4 i + 1))) 18 0) ∧ (∀ j, k ≤ j → j < n → f (8 * s + j) = ra ρ 19 j ∧ g (8 * s + j) = ra ρ 20 j) ∧ (∀ j, j < 8 * s + k ∨ 8 * s + n ≤ j → f j = ra ρ 7 j ∧ g j = ra ρ 8 j) := by
  induction m with
  | zero =>
    intro k fuel ρ hn hk hf
    cases fuel with
    | zero => omega
    | succ fuel =>
      refine ⟨ra ρ 7, ra ρ 8, ?_, fun j h1 h2 => by omega, fun j _ => ⟨rfl, rfl⟩⟩
      show (if ri ρ 18 ≤ i32 k then b1 (rgI ρ 4 30 (i32 i)) (fun x201 => b1 (rsI ρ 4 30 (i32 i) (x201 + 1)) (fun ρ204 => b0 (rpI ρ204 18 0) (fun ρ207 => some ((), ρ207)))) else _) = _
      rw [hn, if_pos ((i32_le (by omega) (by omega)).mpr (by omega)), rgI_at hi (by decide), b1_some, rsI_at hi (by decide), b1_some, b0_eq]
      congr 2
      show rpI (rset ρ 4 _) 18 0 = rpI (rset (ri ρ, rl ρ, va_up (va_up (ra ρ) 7 (ra ρ 7)) 8 (ra ρ 8), rL ρ) 4 _) 18 0
      have : va_up (va_up (ra ρ) 7 (ra ρ 7)) 8 (ra ρ 8) = ra ρ := by
        funext q
        unfold va_up
        grind
      rw [this]
  | succ m ih =>
    intro k fuel ρ hn hk hf
    cases fuel with
    | zero => omega
    | succ fuel =>
      obtain ⟨f, g, q1, q2, q3⟩ := ih (k + 1) fuel (rset (rset ρ 7 (upd (ra ρ 7) (8 * s + k) (ra ρ 19 k))) 8 (upd (ra ρ 8) (8 * s + k) (ra ρ 20 k))) hn (by omega) (by omega)
      refine ⟨f, g, ?_, fun j h1 h2 => ?_, fun j h1 => ?_⟩
      · show (if ri ρ 18 ≤ i32 k then _ else b1 (rgI ρ 19 8 (i32 k)) (fun x167 => b1 (rsI ρ 7 720 ((8 * i32 s) + i32 k) x167) (fun ρ168 => b1 (rgI ρ168 20 8 (i32 k)) (fun x187 => b1 (rsI ρ168 8 720 ((8 * i32 s) + i32 k) x187) (fun ρ188 => RB_M_shape_140 fuel (i32 i) (i32 s) (i32 k + 1) ρ188))))) = _
        rw [hn, if_neg (fun q => by have := (i32_le (by omega) (by omega)).mp q; omega), rgI_at (by omega) (by decide), b1_some, i32_8, rsI_at (by omega) (by decide), b1_some, rgI_at (by omega) (by decide), b1_some, rsI_at (by omega) (by decide), b1_some, i32_succ]
        refine Eq.trans q1 ?_
        rw [rs4 ρ (by decide)]
        rfl
      · by_cases hjk : j = k
        · subst hjk
          have := q3 (8 * s + j) (.inl (by omega))
          refine ⟨this.1.trans (upd_at _ _ _), this.2.trans (upd_at _ _ _)⟩
        · exact q2 j (by omega) h2
      · have := q3 j (by omega)
        exact ⟨this.1.trans (upd_ne _ _ (by omega)), this.2.trans (upd_ne _ _ (by omega))⟩
theorem IZ.cls {ro : Nat → Nat} {μ : Mem} {ρ : RS} {s a : Nat} (h : IZ ro μ ρ s a) : ∃ ci fs, mF μ a = some (.inr (ci, fs)) ∧ ci ∈ [1, 2, 5, 6, 7] := by
  obtain ⟨n, h1, h2, h3, h4, h5⟩ := h
  obtain ⟨ax, ay, fx, fy, q1, q2⟩ := h4
  exact ⟨2, _, q1.1, by decide⟩
set_option maxHeartbeats 4000000 in
theorem call_shape {b c v : Nat} {ρ : RS} {μ : Mem} (hI : Invt b c v ρ μ) (hov : ov b ρ μ = μ) (x y : Int32) : CallU (S_P_shape (some c) x y) (R_M_shape x y) [(0, 1), (1, 2)] b c v ρ μ := by
  have hI0 := hI
  obtain ⟨ro, N, pl, lPl, aX, aY, nc, rt, aT, nt, lC, aW, hH, eE, rR, an, h1, h2, h3, h4, h5, h6, h7, h8, h9, h10, h11, h12, h13, h14, h15, h16⟩ := hI
  have h2' := h2
  have h4' := h4
  obtain ⟨g1, g2, g3, g4⟩ := h2
  obtain ⟨c1, c2, fx, fy, c3, c4, c5⟩ := h4
  have hDx : aX ≠ mD μ := by have := c3.low h16; have := h15.1.1; omega
  have hDy : aY ≠ mD μ := by have := c4.low h16; have := h15.1.1; omega
  have R46 : ∀ (v1 v2 : Int32), RB_M_shape_46 v1 v2 1 ρ = some ((), rpI ρ 0 1) := fun v1 v2 => rfl
  have hbad : ¬ ((0 ≤ x ∧ x < i32 N) ∧ 0 ≤ y ∧ y ≤ 9999) → CallU (S_P_shape (some c) x y) (R_M_shape x y) [(0, 1), (1, 2)] b c v ρ μ := by
    intro hb
    refine .inr ⟨0, m_up μ, 1, rpI ρ 0 1, ?_, by decide, ?_, rfl, by decide, hI0.code 1⟩
    · unfold S_P_shape B_P_shape_17
      rw [rc_at h1.up.1, b1_some, P_placeOf_eq (μ := m_up μ) h1.up h2' x, b1_some]
      by_cases hx : 0 ≤ x ∧ x < i32 N
      · rw [if_pos hx, if_neg (some_ne _), S_isDay, b1_some, if_pos (bI_neg (fun q => hb ⟨hx, q⟩))]
      · rw [if_neg hx, if_pos rfl]
    · unfold R_M_shape
      rw [R_isPlace g1 g2, b1_some]
      by_cases hx : 0 ≤ x ∧ x < i32 N
      · rw [if_neg (by rw [bI_pos hx]; decide), R_isDay, b1_some, if_pos (bI_neg (fun q => hb ⟨hx, q⟩))]
        rfl
      · rw [if_pos (bI_neg hx)]
        rfl
  by_cases hx : 0 ≤ x ∧ x < i32 N
  case neg => exact hbad (fun q => hx q.1)
  by_cases hy : 0 ≤ y ∧ y ≤ 9999
  case neg => exact hbad (fun q => hy q.2)
  obtain ⟨i, rfl, hi⟩ := id_of g2 hx
  have hR0 : R_M_shape (i32 i) y ρ = if nc = 1 ∨ (3 ≤ nc ∧ surf nc (ra ρ 19) (ra ρ 20) nc 0 0 ≠ 0) then RB_M_shape_46 (i32 i) y 0 ρ else some ((), rpI ρ 0 1) := by
    unfold R_M_shape
    rw [R_isPlace g1 g2, b1_some, if_neg (by rw [bI_pos hx]; decide), R_isDay, b1_some, if_neg (by rw [bI_pos hy]; decide), c1]
    by_cases hn1 : nc = 1
    · rw [if_pos (by rw [hn1]; rfl), if_pos (.inl hn1)]
      rfl
    · rw [if_neg (show ¬ i32 nc = 1 from fun q => hn1 ((i32_inj (b := 1) (by omega) (by decide)).mp q)), R_isArea_eq c1 c2, b1_some]
      by_cases ha : 3 ≤ nc ∧ surf nc (ra ρ 19) (ra ρ 20) nc 0 0 ≠ 0
      · rw [if_neg (by rw [bI_pos ha]; decide), if_pos (.inr ha)]
        rfl
      · rw [if_pos (bI_neg ha), if_neg (fun q => q.elim hn1 ha)]
        rfl
  by_cases hgood : nc = 1 ∨ (3 ≤ nc ∧ surf nc (ra ρ 19) (ra ρ 20) nc 0 0 ≠ 0)
  case neg =>
    obtain ⟨μ', fr, co, hS⟩ := P_shape_mid (μ := m_up μ) h15.up h1.up h2' h4' hDx hDy hi hy
    refine .inr ⟨0, μ', 1, rpI ρ 0 1, ?_, by decide, ?_, rfl, by decide, hI0.code 1⟩
    · rw [hS, if_neg hgood]
    · rw [hR0, if_neg hgood]
  rw [if_pos hgood] at hR0
  obtain ⟨sh, sd, nm, lk, q1, q2, q3, q4⟩ := g4 i hi
  have q2' := q2
  obtain ⟨n, co, D, d1, d2, d3, d4, d5, d6⟩ := q2
  have hR1 : R_M_shape (i32 i) y ρ = if n < 3 ∧ (n = 0 ∨ ¬ y ≤ D (n - 1)) then RB_M_shape_99 (i32 i) y (i32 n) 0 (rpI ρ 0 0) else some ((), rpI (rpI ρ 0 0) 0 2) := by
    rw [hR0]
    unfold RB_M_shape_46
    rw [b0_eq, if_pos (show ri (rpI ρ 0 0) 0 ≤ 0 from by show (0 : Int32) ≤ 0; decide), rgI_at (by omega) (by decide), show ra (rpI ρ 0 0) 4 i = i32 n from d1, b1_some]
    by_cases hn3 : n < 3
    · rw [if_neg (show ¬ i32 n = 3 from fun q => by have := (i32_inj (b := 3) (by omega) (by decide)).mp q; omega)]
      by_cases h0 : n = 0
      · subst h0
        rw [if_pos (show i32 0 ≤ 0 from by decide), if_pos ⟨hn3, .inl rfl⟩]
        rfl
      · rw [if_neg (show ¬ i32 n ≤ 0 from fun q => by have := (i32_le (b := 0) (by omega) (by decide)).mp q; omega), i32_3, show i32 (3 * i + n) - 1 = i32 (3 * i + n - 1) from i32_sub (b := 1) (by omega), rgI_at (by omega) (by decide), b1_some]
        have hD : ra (rpI ρ 0 0) 5 (3 * i + n - 1) = D (n - 1) := by
          rw [show 3 * i + n - 1 = 3 * i + (n - 1) by omega]
          exact d5 (n - 1) (by omega)
        rw [hD]
        by_cases hyD : y ≤ D (n - 1)
        · rw [if_neg (i32_nlt.mpr hyD), if_neg (fun q => q.2.elim h0 (fun q2 => q2 hyD))]
          rfl
        · rw [if_pos (i32_nle.mp hyD), if_pos ⟨hn3, .inr hyD⟩]
          rfl
    · rw [if_pos (show i32 n = 3 from by rw [show n = 3 by omega]; rfl), if_neg (fun q => hn3 q.1)]
      rfl
  by_cases htk : n < 3 ∧ (n = 0 ∨ ¬ y ≤ D (n - 1))
  case neg =>
    obtain ⟨μ', fr, hco, hS⟩ := P_shape_mid (μ := m_up μ) h15.up h1.up h2' h4' hDx hDy hi hy
    have e1 : Ext (fun q => False) ro (m_up μ) (roN ro (mN (m_up μ)) (fun _ => 0)) μ' := fr.ext h15.up ro _
    refine .inr ⟨1, μ', 2, rpI (rpI ρ 0 0) 0 2, ?_, by decide, ?_, rfl, by decide, (hI0.code 0).code 2⟩
    · rw [hS, if_pos hgood]
      unfold B_P_shape_74
      rw [rc_at (q1.up.ext e1 (fun q => q)).1, b1_some, Pl_takes_eq (q1.up.ext e1 (fun q => q)).1 (AR.ext (μ := m_up μ) d3 e1 (fun q => q) (fun q => q)) (d4.up.ext e1 (fun q => q)).1 d2, b1_some, if_pos (bI_neg htk)]
    · rw [hR1, if_neg htk]
  rw [if_pos htk] at hR1
  have hn3 := htk.1
  obtain ⟨μ1, fr, hco, hS⟩ := P_shape_mid h15 h1 h2' h4' hDx hDy hi hy
  rw [if_pos hgood] at hS
  have e1 : Ext (fun q => q = 2 ∨ q = 100 + 10 * i + 1 ∨ q = 100 + 10 * i + 2 ∨ q = 100 + 10 * i + 3) ro μ (roN ro (mN μ) (fun _ => 0)) μ1 := fr.ext h15 ro _
  have e0 : Ext (fun q => False) ro μ (roN ro (mN μ) (fun _ => 0)) μ1 := fr.ext h15 ro _
  generalize roN ro (mN μ) (fun _ => 0) = ro1 at *
  have w1 := e1.wf
  have lo1 := e1.lo h15 h16
  have q1a := q1.ext e0 (fun q => q)
  have d3a := d3.ext e0 (fun q => q) (fun q => q)
  have d4a := d4.ext e0 (fun q => q)
  have h1a := h1.ext e0 (fun q => q)
  have k2 : Ext (fun q => q = 2 ∨ q = 100 + 10 * i + 1 ∨ q = 100 + 10 * i + 2 ∨ q = 100 + 10 * i + 3) ro1 μ1 ro1 (m_set μ1 sd (.inl (0, 3, .inl (upd D n y)))) := Ext.set w1 d4a (.inr (.inr (.inr rfl))) _
  have k2' : Ext (fun q => q = 100 + 10 * i + 3) ro1 μ1 ro1 (m_set μ1 sd (.inl (0, 3, .inl (upd D n y)))) := Ext.set (W := fun q => q = 100 + 10 * i + 3) w1 d4a rfl _
  have s2 : sI μ1 (some sd) 0 (i32 n) y = some (m_set μ1 sd (.inl (0, 3, .inl (upd D n y)))) := sI_at y d4a.1 (d4a.low lo1) hn3 (by decide)
  have d4b := d4a.set ro1 (.inl (0, 3, .inl (upd D n y)))
  have q1b := q1a.ext k2' (by omega)
  have d3b := d3a.ext k2' (by omega) (by omega)
  have h1b := h1a.ext k2' (by omega)
  have w2 := k2.wf
  have lo2 := k2.lo w1 lo1
  have hcob := hco.ext k2' (by omega)
  generalize m_set μ1 sd (.inl (0, 3, .inl (upd D n y))) = μ2 at *
  obtain ⟨ax, ay, fx', fy', co1, co2⟩ := hcob
  have hcob : CO0 ro1 μ2 (mN μ) nc (ra ρ 19) (ra ρ 20) := ⟨ax, ay, fx', fy', co1, co2⟩
  obtain ⟨ro3, μ3, s3, k3', d3c⟩ := Al_add_eq w2 lo2 d3b (by omega) co1.1 (by decide) (fun j hj => (((d6 j hj).ext e0 (fun q => q)).ext k2' (by omega)).cls)
  have k3 : Ext (fun q => q = 2 ∨ q = 100 + 10 * i + 1 ∨ q = 100 + 10 * i + 2 ∨ q = 100 + 10 * i + 3) ro1 μ2 ro3 μ3 := k3'.mono (fun r hr => by omega)
  have w3 := k3.wf
  have lo3 := k3.lo w2 lo2
  have h1c := h1b.ext k3' (by omega)
  have s4 : pV μ3 (some c) 11 3 (vI 0) = some (m_set μ3 c (PFc lPl aX aY 0 rt aT nt lC aW hH eE rR an)) := pV_at _ h1c.1 (h1c.low lo3) (show 3 < 13 by decide)
  have k4 : Ext (fun q => q = 2 ∨ q = 100 + 10 * i + 1 ∨ q = 100 + 10 * i + 2 ∨ q = 100 + 10 * i + 3) ro3 μ3 ro3 (m_set μ3 c (PFc lPl aX aY 0 rt aT nt lC aW hH eE rR an)) := Ext.set w3 h1c (.inl rfl) _
  have k4' : Ext (fun q => q = 2) ro3 μ3 ro3 (m_set μ3 c (PFc lPl aX aY 0 rt aT nt lC aW hH eE rR an)) := Ext.set (W := fun q => q = 2) w3 h1c rfl _
  have h1d := h1c.set ro3 (PFc lPl aX aY 0 rt aT nt lC aW hH eE rR an)
  have e := ((e1.tr k2).tr k3).tr k4
  obtain ⟨f, g, r1, r2, r3⟩ := R_shp (n := nc) (s := 3 * i + n) (i := i) c2 (by omega) (by omega) nc 0 fu (rset (rset (rpI (rpI ρ 0 0) 0 0) 5 (upd (ra ρ 5) (3 * i + n) y)) 6 (upd (ra ρ 6) (3 * i + n) (i32 nc))) c1 (by omega) (by show nc < 4096; omega)
  have d1s : ra ρ 4 i + 1 = i32 (n + 1) := by rw [d1, i32_succ]
  refine .inl ⟨_, rpI (rset (rset (rset (rset (rset (rpI (rpI ρ 0 0) 0 0) 5 (upd (ra ρ 5) (3 * i + n) y)) 6 (upd (ra ρ 6) (3 * i + n) (i32 nc))) 7 f) 8 g) 4 (upd (ra ρ 4) i (ra ρ 4 i + 1))) 18 0, ?_, ov_keep hov h14 e (by omega), ?_, rfl, ⟨ro3, N, pl, lPl, aX, aY, 0, rt, aT, nt, lC, aW, hH, eE, rR, an, h1d, ⟨g1, g2, g3.ext e (by omega) (by omega), fun j hj => ?_⟩, ?_, ⟨rfl, by decide, fx, fy, c3.ext e (by omega), c4.ext e (by omega), fun k hk => absurd hk (Nat.not_lt_zero k)⟩, h5.ext e (by omega), h6.ext e (by omega), h7.ext e (by omega) (by omega) (by omega), h8.ext e (fun q hq => by omega), h9.ext e (by omega) (by omega) (by omega), h10.ext e (by omega) (fun i _ => by omega), h11.ext e (by omega), h12.ext e (by omega), h13.ext e (by omega), h14.ext e, e.wf, e.lo h15 h16⟩⟩
  · rw [hS]
    unfold B_P_shape_74
    rw [rc_at q1a.1, b1_some, Pl_takes_eq q1a.1 d3a d4a.1 d2, b1_some, if_neg (by rw [bI_pos htk]; decide)]
    unfold S_Pl_addShape B_Pl_addShape_33
    have v1 : gR μ1 (some (pl i)) 7 3 = some (some sh) := gR_at q1a.1 rfl
    have v2 : gR μ1 (some (pl i)) 7 4 = some (some sd) := gR_at q1a.1 rfl
    have v3 : gR μ2 (some (pl i)) 7 3 = some (some sh) := gR_at q1b.1 rfl
    simp only [v1, v2, v3, b1_some, b2_some, d3a.rc, d3a.size, d3b.rc, if_neg (show ¬ (3 : Int32) ≤ i32 n from fun q => by have := (i32_le (a := 3) (by decide) (by omega)).mp q; omega), s2, s3, s4]
  · rw [hR1]
    unfold RB_M_shape_99
    rw [b0_eq, if_pos (show ri (rpI (rpI ρ 0 0) 0 0) 0 ≤ 0 from by show (0 : Int32) ≤ 0; decide), b0_eq, i32_3, rsI_at (by omega) (by decide), b1_some]
    rw [show ri (rset (rpI (rpI ρ 0 0) 0 0) 5 (upd (ra (rpI (rpI ρ 0 0) 0 0) 5) (3 * i + n) y)) 18 = i32 nc from c1, rsI_at (by omega) (by decide), b1_some]
    exact r1
  · by_cases hji : j = i
    · subst hji
      refine ⟨sh, sd, nm, lk, ?_, ⟨n + 1, (fun k => if k = n then mN μ else co k), upd D n y, ?_, hn3, d3c.ext k4' (by omega) (by omega), ?_, fun k hk => ?_, fun k hk => ?_⟩, (q3.ext e (by omega) (fun q _ _ => by omega)), (q4.ext e (by omega) (fun q _ _ => by omega))⟩
      · exact (q1b.ext k3' (by omega)).ext k4' (by omega)
      · show upd (ra ρ 4) j (ra ρ 4 j + 1) j = _
        rw [upd_at, d1s]
      · exact (d4b.ext k3' (by omega)).ext k4' (by omega)
      · show upd (ra ρ 5) (3 * j + n) y (3 * j + k) = upd D n y k
        by_cases hkn : k = n
        · rw [hkn, upd_at, upd_at]
        · rw [upd_ne _ _ hkn, upd_ne _ _ (by omega)]
          exact d5 k (by omega)
      · by_cases hkn : k = n
        · subst hkn
          have hfg : ∀ l, l < nc → f (8 * (3 * j + k) + l) = ra ρ 19 l ∧ g (8 * (3 * j + k) + l) = ra ρ 20 l := fun l hl => r2 l (by omega) hl
          refine ⟨nc, upd_at _ _ _, by omega, c2, ?_, fun l hl => ?_, ?_⟩
          · show CO0 ro3 _ (if k = k then mN μ else co k) nc _ _
            rw [if_pos rfl]
            exact ((hcob.ext k3' (by omega)).ext k4' (by omega)).fn (fun l hl => ⟨(hfg l hl).1.symm, (hfg l hl).2.symm⟩)
          · show inB (f (8 * (3 * j + k) + l)) ∧ inB (g (8 * (3 * j + k) + l))
            rw [(hfg l hl).1, (hfg l hl).2]
            exact (c5 l hl).2
          · rcases hgood with hg1 | ⟨hg1, hg2⟩
            · exact .inl hg1
            · refine .inr ⟨hg1, ?_⟩
              show surf nc (fun l => f (8 * (3 * j + k) + l)) (fun l => g (8 * (3 * j + k) + l)) nc 0 0 ≠ 0
              rw [surf_fn hfg nc 0 0 (by omega)]
              exact hg2
        · show IZ ro3 _ _ (3 * j + k) (if k = n then mN μ else co k)
          rw [if_neg hkn]
          refine (((d6 k (by omega)).ext e (by omega)).rho' (upd_ne _ _ (by omega)) (fun l hl => ?_))
          exact r3 _ (by omega)
    · obtain ⟨sh', sd', nm', lk', p1, p2, p3, p4⟩ := (g4 j hj).ext e (by omega) (fun q _ => by omega)
      exact ⟨sh', sd', nm', lk', p1, p2.rho (upd_ne _ _ hji) (fun k hk => ⟨upd_ne _ _ (by omega), upd_ne _ _ (by omega), fun l hl => r3 _ (by omega)⟩), p3, p4⟩
  · obtain ⟨z1, z2⟩ := h3
    exact ⟨fun j hj hj2 => ⟨(upd_ne (ra ρ 4) _ (by omega)).trans (z1 j hj hj2).1, (z1 j hj hj2).2⟩, z2⟩
