/-! name -/
theorem i32_10 (s k : Nat) : (10 : Int32) * i32 s + i32 k = i32 (10 * s + k) := by
  rw [show (10 : Int32) = i32 10 from rfl, i32_mul, i32_add]
theorem i32_2 (s k : Nat) : (2 : Int32) * i32 s + i32 k = i32 (2 * s + k) := by
  rw [show (2 : Int32) = i32 2 from rfl, i32_mul, i32_add]
theorem WO0.set {ro : Nat → Nat} {μ : Mem} {a n b : Nat} {w : Nat → Int32} (h : WO0 ro μ a n w) (hb : a ≠ b) {ci : Nat} {fs : List Value} (hc : mF μ b = some (.inr (ci, fs))) (e : ME) : WO0 ro (m_set μ b e) a n w := by
  obtain ⟨al, cap, f, h1, h2, h3⟩ := h
  refine ⟨al, cap, f, ⟨(set_ne _ _ hb).trans h1.1, h1.2⟩, ⟨(set_ne _ _ ?_).trans h2.1, h2.2⟩, h3⟩
  intro q
  have h4 := h2.1
  rw [q, hc] at h4
  cases h4
theorem nO_eq (μ : Mem) (ci : Nat) (fs : List Value) : nO μ ci fs = some (some (mN μ), m_push μ (.inr (ci, fs))) := rfl
theorem R_nm {L q : Nat} (hL : L ≤ 10) (hq : q < 60) (m : Nat) : ∀ (k fuel : Nat) (ρ : RS), ri ρ 38 = i32 L → k + m = L → m < fuel → ∃ f, RB_M_name_110 fuel (i32 q) (i32 k) ρ = some ((), rpI (rset ρ 13 f) 21 0) ∧ (∀ j, k ≤ j → j < L → f (10 * q + j) = ra ρ 39 j) ∧ (∀ j, j < 10 * q + k ∨ 10 * q + L ≤ j → f j = ra ρ 13 j) := by
  induction m with
  | zero =>
    intro k fuel ρ hn hk hf
    cases fuel with
    | zero => omega
    | succ fuel =>
      refine ⟨ra ρ 13, ?_, fun j h1 h2 => by omega, fun j _ => rfl⟩
      show (if ri ρ 38 ≤ i32 k then b0 (rpI ρ 21 0) (fun ρ147 => some ((), ρ147)) else _) = _
      rw [hn, if_pos ((i32_le (by omega) (by omega)).mpr (by omega)), b0_eq]
      congr 2
      show rpI ρ 21 0 = rpI (ri ρ, rl ρ, va_up (ra ρ) 13 (ra ρ 13), rL ρ) 21 0
      have : va_up (ra ρ) 13 (ra ρ 13) = ra ρ := by
        funext q
        unfold va_up
        grind
      rw [this]
  | succ m ih =>
    intro k fuel ρ hn hk hf
    cases fuel with
    | zero => omega
    | succ fuel =>
      obtain ⟨f, q1, q2, q3⟩ := ih (k + 1) fuel (rset ρ 13 (upd (ra ρ 13) (10 * q + k) (ra ρ 39 k))) hn (by omega) (by omega)
      refine ⟨f, ?_, fun j h1 h2 => ?_, fun j h1 => ?_⟩
      · show (if ri ρ 38 ≤ i32 k then _ else b1 (rgI ρ 39 10 (i32 k)) (fun x137 => b1 (rsI ρ 13 600 ((10 * i32 q) + i32 k) x137) (fun ρ138 => RB_M_name_110 fuel (i32 q) (i32 k + 1) ρ138))) = _
        rw [hn, if_neg (fun q => by have := (i32_le (by omega) (by omega)).mp q; omega), rgI_at (by omega) (by decide), b1_some, i32_10, rsI_at (by omega) (by decide), b1_some, i32_succ]
        refine Eq.trans q1 ?_
        rw [rs2]
      · by_cases hjk : j = k
        · subst hjk
          exact (q3 (10 * q + j) (.inl (by omega))).trans (upd_at _ _ _)
        · exact q2 j (by omega) h2
      · exact (q3 j (by omega)).trans (upd_ne _ _ (by omega))
theorem Na_init_eq {μ : Mem} {A wo : Nat} {fs : List Value} (h : mF μ A = some (.inr (6, fs))) (hl : fs.length = 3) (l : mW μ ≤ A) (x y : Int32) : S_Na_init (some A) (some wo) x y μ = some ((), m_set μ A (.inr (6, [.ref wo, .int x, .int y]))) := by
  obtain ⟨f0, f1, f2, rfl⟩ : ∃ f0 f1 f2, fs = [f0, f1, f2] := by
    match fs, hl with
    | [a, b, c], _ => exact ⟨a, b, c, rfl⟩
  unfold S_Na_init
  have p1 : pV μ (some A) 6 0 (vR (some wo)) = some (m_set μ A (.inr (6, [.ref wo, f1, f2]))) := pV_at _ h l (show 0 < 3 by decide)
  have p2 : pV (m_set μ A (.inr (6, [.ref wo, f1, f2]))) (some A) 6 1 (vI x) = some (m_set (m_set μ A (.inr (6, [.ref wo, f1, f2]))) A (.inr (6, [.ref wo, .int x, f2]))) := pV_at _ (set_at _ _ _) l (show 1 < 3 by decide)
  rw [set_set] at p2
  have p3 : pV (m_set μ A (.inr (6, [.ref wo, .int x, f2]))) (some A) 6 2 (vI y) = some (m_set (m_set μ A (.inr (6, [.ref wo, .int x, f2]))) A (.inr (6, [.ref wo, .int x, .int y]))) := pV_at _ (set_at _ _ _) l (show 2 < 3 by decide)
  rw [set_set] at p3
  rw [rc_at h, b1_some, p1, b1_some, p2, b1_some, p3, b1_some]
theorem NA0.cls {ro : Nat → Nat} {μ : Mem} {a n : Nat} {f t : Int32} {w : Nat → Int32} (h : NA0 ro μ a f t n w) : ∃ ci fs, mF μ a = some (.inr (ci, fs)) ∧ ci ∈ [1, 2, 5, 6, 7] := by
  obtain ⟨wo, h1, h2⟩ := h
  exact ⟨6, _, h1.1, by decide⟩
/-- a new Name, with its word -/
theorem Na_new {μ : Mem} (w : WF μ) {aT n : Nat} {ft t : Nat → Int32} (hT : mF μ aT = some (.inl (2, 10, .inl ft))) (hft : ∀ k, k < n → ft k = t k) (ht : ltr n t) (x y : Int32) : ∃ μ2 μ3, S_Wo_init (some (mN μ + 1)) (some aT) (i32 n) (m_push (m_push μ (.inr (6, [.null, .int 0, .int 0]))) (.inr (10, [.null, .int 0]))) = some ((), μ2) ∧ rc μ2 (some (mN μ)) 6 = some () ∧ S_Na_init (some (mN μ)) (some (mN μ + 1)) x y μ2 = some ((), μ3) ∧ Fr (mN μ) μ μ3 ∧ ∀ ro : Nat → Nat, (∀ a, mN μ ≤ a → ro a = 0) → NA0 ro μ3 (mN μ) x y (foL t n) (foW t n) := by
  have f1 : Fr (mN μ) μ (m_push μ (.inr (6, [.null, .int 0, .int 0]))) := (Fr.rf w).push (Nat.le_refl _) _
  have c1 := push_at μ (.inr (6, [.null, .int 0, .int 0]))
  have hT1 := (f1.2.2.2.2 aT (w.lt hT)).trans hT
  obtain ⟨μ2, s2, f2, n2, hc2, hwo⟩ := Wo_init_eq f1.wf hT1 hft ht
  have n1 : mN (m_push μ (.inr (6, [.null, .int 0, .int 0]))) = mN μ + 1 := rfl
  rw [n1] at s2 f2 n2 hc2 hwo
  have c2 := (f2.2.2.2.2 (mN μ) (by omega)).trans c1
  have f2' : Fr (mN μ) μ μ2 := f1.tr (f2.lower (by omega))
  have l2 : mW μ2 ≤ mN μ := by rw [f2'.2.1]; exact w.1.2
  have s3 := Na_init_eq (wo := mN μ + 1) c2 rfl l2 x y
  refine ⟨μ2, _, s2, rc_at c2, s3, f2'.set (Nat.le_refl _) c2 _, fun ro hro => ⟨mN μ + 1, ⟨set_at _ _ _, hro _ (Nat.le_refl _)⟩, ?_⟩⟩
  exact (hwo ro (fun a ha _ => hro a (by omega))).set (by omega) c2 _
set_option maxHeartbeats 4000000 in
theorem call_name {b c v : Nat} {ρ : RS} {μ : Mem} (hI : Invt b c v ρ μ) (hov : ov b ρ μ = μ) (x y z : Int32) : CallU (S_P_name (some c) x y z) (R_M_name x y z) [(0, 1), (1, 2)] b c v ρ μ := by
  have hI0 := hI
  obtain ⟨ro, N, pl, lPl, aX, aY, nc, rt, aT, nt, lC, aW, hH, eE, rR, an, h1, h2, h3, h4, h5, h6, h7, h8, h9, h10, h11, h12, h13, h14, h15, h16⟩ := hI
  have h2' := h2
  obtain ⟨g1, g2, g3, g4⟩ := h2
  obtain ⟨t1, t2, f, t3, t4, t5⟩ := h6
  have hbad : ¬ ((0 ≤ x ∧ x < i32 N) ∧ ((0 ≤ y ∧ y ≤ 9999) ∧ (0 ≤ z ∧ z ≤ 9999) ∧ y ≤ z) ∧ nt ≠ 0) → CallU (S_P_name (some c) x y z) (R_M_name x y z) [(0, 1), (1, 2)] b c v ρ μ := by
    intro hb
    refine .inr ⟨0, m_up μ, 1, rpI ρ 0 1, ?_, by decide, ?_, rfl, by decide, hI0.code 1⟩
    · unfold S_P_name B_P_name_27
      rw [rc_at h1.up.1, b1_some, P_placeOf_eq (μ := m_up μ) h1.up h2' x, b1_some]
      by_cases hx : 0 ≤ x ∧ x < i32 N
      · rw [if_pos hx, if_neg (some_ne _), S_areSpan, b1_some]
        by_cases hy : (0 ≤ y ∧ y ≤ 9999) ∧ (0 ≤ z ∧ z ≤ 9999) ∧ y ≤ z
        · have hnt : nt = 0 := Decidable.byContradiction (fun q => hb ⟨hx, hy, q⟩)
          rw [if_neg (by rw [bI_pos hy]; decide), gI_at h1.up.1 rfl, b1_some, if_pos (by rw [hnt]; rfl)]
        · rw [if_pos (bI_neg hy)]
      · rw [if_neg hx, if_pos rfl]
    · unfold R_M_name
      rw [R_isPlace g1 g2, b1_some]
      by_cases hx : 0 ≤ x ∧ x < i32 N
      · rw [if_neg (by rw [bI_pos hx]; decide), R_isSpan, b1_some]
        by_cases hy : (0 ≤ y ∧ y ≤ 9999) ∧ (0 ≤ z ∧ z ≤ 9999) ∧ y ≤ z
        · have hnt : nt = 0 := Decidable.byContradiction (fun q => hb ⟨hx, hy, q⟩)
          rw [if_neg (by rw [bI_pos hy]; decide), t1, if_pos (by rw [hnt]; rfl)]
          rfl
        · rw [if_pos (bI_neg hy)]
          rfl
      · rw [if_pos (bI_neg hx)]
        rfl
  by_cases hx : 0 ≤ x ∧ x < i32 N
  case neg => exact hbad (fun q => hx q.1)
  by_cases hy : (0 ≤ y ∧ y ≤ 9999) ∧ (0 ≤ z ∧ z ≤ 9999) ∧ y ≤ z
  case neg => exact hbad (fun q => hy q.2.1)
  by_cases hnt : nt = 0
  case pos => exact hbad (fun q => q.2.2 hnt)
  obtain ⟨i, rfl, hi⟩ := id_of g2 hx
  obtain ⟨sh, sd, nm, lk, q1, q2, q3, q4⟩ := g4 i hi
  have q3' := q3
  obtain ⟨n, na, d1, d2, d3, d4⟩ := q3
  have hnt2 : ¬ i32 nt = 0 := fun q => hnt ((i32_inj (b := 0) (by omega) (by decide)).mp q)
  by_cases hn2 : n < 2
  case neg =>
    refine .inr ⟨1, m_up μ, 2, rpI ρ 0 2, ?_, by decide, ?_, rfl, by decide, hI0.code 2⟩
    · unfold S_P_name
      rw [rc_at h1.up.1, b1_some, P_placeOf_eq (μ := m_up μ) h1.up h2' _, b1_some, if_pos hx, if_neg (some_ne _), S_areSpan, b1_some, if_neg (by rw [bI_pos hy]; decide), gI_at h1.up.1 rfl, b1_some, if_neg hnt2, i32_nat (by omega), gR_at q1.up.1 rfl, b1_some, AR.rc (μ := m_up μ) d3, b1_some, AR.size (μ := m_up μ) d3, b1_some, if_neg (show ¬ i32 n < (2 : Int32) from fun q => hn2 ((i32_lt (b := 2) (by omega) (by decide)).mp q))]
    · unfold R_M_name
      rw [R_isPlace g1 g2, b1_some, if_neg (by rw [bI_pos hx]; decide), R_isSpan, b1_some, if_neg (by rw [bI_pos hy]; decide), t1, if_neg hnt2, rgI_at (by omega) (by decide), d1, b1_some, if_pos (show i32 n = 2 from by rw [show n = 2 by omega]; rfl)]
      rfl
  obtain ⟨μ2, μ3, s2, r6, s3, fr, hna⟩ := Na_new h15 t3.1 t4 t5 y z
  have hna := hna (roN ro (mN μ) (fun _ => 0)) (fun a ha => roN_new ha)
  have e1 : Ext (fun q => q = 2 ∨ q = 100 + 10 * i + 4 ∨ q = 100 + 10 * i + 5) ro μ (roN ro (mN μ) (fun _ => 0)) μ3 := fr.ext h15 ro _
  have e0 : Ext (fun q => False) ro μ (roN ro (mN μ) (fun _ => 0)) μ3 := fr.ext h15 ro _
  have p2 := Is.old (Is.old h1 h15 0 (.inr (6, [.null, .int 0, .int 0]))) (Ext.push (W := fun _ => False) (ro := ro) h15 0 (.inr (6, [.null, .int 0, .int 0]))).wf 0 (.inr (10, [.null, .int 0]))
  have r10 : rc (m_push (m_push μ (.inr (6, [.null, .int 0, .int 0]))) (.inr (10, [.null, .int 0]))) (some (mN μ + 1)) 10 = some () := rc_at (push_at (m_push μ (.inr (6, [.null, .int 0, .int 0]))) (.inr (10, [.null, .int 0])))
  generalize roN ro (mN μ) (fun _ => 0) = ro1 at *
  have w1 := e1.wf
  have lo1 := e1.lo h15 h16
  have d3a := d3.ext e0 (fun q => q) (fun q => q)
  have h1a := h1.ext e0 (fun q => q)
  obtain ⟨wo, na1, na2⟩ := hna
  have hna : NA0 ro1 μ3 (mN μ) y z (foL (ra ρ 22) nt) (foW (ra ρ 22) nt) := ⟨wo, na1, na2⟩
  obtain ⟨ro4, μ4, s4, k4', d3b⟩ := Al_add_eq w1 lo1 d3a (by omega) na1.1 (by decide) (fun j hj => by
    obtain ⟨len, g, _⟩ := d4 j hj
    exact (g.ext e0 (fun q => q)).cls)
  have k4 : Ext (fun q => q = 2 ∨ q = 100 + 10 * i + 4 ∨ q = 100 + 10 * i + 5) ro1 μ3 ro4 μ4 := k4'.mono (fun r hr => by omega)
  have w4 := k4.wf
  have lo4 := k4.lo w1 lo1
  have h1b := h1a.ext k4' (by omega)
  have s5 : pV μ4 (some c) 11 6 (vI 0) = some (m_set μ4 c (PFc lPl aX aY nc rt aT 0 lC aW hH eE rR an)) := pV_at _ h1b.1 (h1b.low lo4) (show 6 < 13 by decide)
  have k5 : Ext (fun q => q = 2 ∨ q = 100 + 10 * i + 4 ∨ q = 100 + 10 * i + 5) ro4 μ4 ro4 (m_set μ4 c (PFc lPl aX aY nc rt aT 0 lC aW hH eE rR an)) := Ext.set w4 h1b (.inl rfl) _
  have k5' : Ext (fun q => q = 2) ro4 μ4 ro4 (m_set μ4 c (PFc lPl aX aY nc rt aT 0 lC aW hH eE rR an)) := Ext.set (W := fun q => q = 2) w4 h1b rfl _
  have h1c := h1b.set ro4 (PFc lPl aX aY nc rt aT 0 lC aW hH eE rR an)
  have e := (e1.tr k4).tr k5
  obtain ⟨o1, o2, o3⟩ := fo_ok t5
  obtain ⟨wf, r1, r2⟩ := R_foldTyped_eq (ρ := rset (rpI ρ 0 0) 9 (upd (ra ρ 9) i (ra ρ 9 i + 1))) t5 t1 (fun k _ => rfl)
  have d1s : ra ρ 9 i + 1 = i32 (n + 1) := by rw [d1, i32_succ]
  obtain ⟨ff, u1, u2, u3⟩ := R_nm (L := foL (ra ρ 22) nt) (q := 2 * i + n) o2.1 (by omega) (foL (ra ρ 22) nt) 0 fu (rset (rset (rset (fQ (rset (rpI ρ 0 0) 9 (upd (ra ρ 9) i (ra ρ 9 i + 1))) (foL (ra ρ 22) nt) wf) 10 (upd (ra ρ 10) (2 * i + n) y)) 11 (upd (ra ρ 11) (2 * i + n) z)) 12 (upd (ra ρ 12) (2 * i + n) (i32 (foL (ra ρ 22) nt)))) rfl (by omega) (by have := o2.1; show foL (ra ρ 22) nt < 4096; omega)
  refine .inl ⟨_, rpI (rset (rset (rset (rset (fQ (rset (rpI ρ 0 0) 9 (upd (ra ρ 9) i (ra ρ 9 i + 1))) (foL (ra ρ 22) nt) wf) 10 (upd (ra ρ 10) (2 * i + n) y)) 11 (upd (ra ρ 11) (2 * i + n) z)) 12 (upd (ra ρ 12) (2 * i + n) (i32 (foL (ra ρ 22) nt)))) 13 ff) 21 0, ?_, ov_keep hov h14 e (by omega), ?_, rfl, ⟨ro4, N, pl, lPl, aX, aY, nc, rt, aT, 0, lC, aW, hH, eE, rR, an, h1c, ⟨g1, g2, g3.ext e (by omega) (by omega), fun j hj => ?_⟩, ?_, (h4.ext e (by omega) (by omega)).same rfl rfl rfl, (h5.ext e (by omega)).same rfl rfl rfl, ⟨rfl, by decide, f, t3.ext e (by omega), fun k hk => absurd hk (Nat.not_lt_zero k), ⟨by decide, fun k hk => absurd hk (Nat.not_lt_zero k)⟩⟩, (h7.ext e (by omega) (by omega) (by omega)).same rfl rfl rfl rfl rfl rfl rfl, (h8.ext e (fun q hq => by omega)).same rfl rfl rfl rfl rfl rfl rfl rfl rfl rfl rfl rfl rfl, (h9.ext e (by omega) (by omega) (by omega)).same rfl rfl, h10.ext e (by omega) (fun i _ => by omega), h11.ext e (by omega), h12.ext e (by omega), h13.ext e (by omega), h14.ext e, e.wf, e.lo h15 h16⟩⟩
  · have v1 : gR μ (some (pl i)) 7 5 = some (some nm) := gR_at q1.1 rfl
    have v2 : gI μ (some c) 11 6 = some (i32 nt) := gI_at h1.1 rfl
    have v3 : gR (m_push (m_push μ (.inr (6, [.null, .int 0, .int 0]))) (.inr (10, [.null, .int 0]))) (some c) 11 5 = some (some aT) := gR_at p2.1 rfl
    have v4 : gI (m_push (m_push μ (.inr (6, [.null, .int 0, .int 0]))) (.inr (10, [.null, .int 0]))) (some c) 11 6 = some (i32 nt) := gI_at p2.1 rfl
    unfold S_P_name
    rw [rc_at h1.1, b1_some, P_placeOf_eq h1 h2', b1_some, if_pos hx, if_neg (some_ne _), S_areSpan, b1_some, if_neg (show ¬ bI ((0 ≤ y ∧ y ≤ 9999) ∧ (0 ≤ z ∧ z ≤ 9999) ∧ y ≤ z) = 0 by rw [bI_pos hy]; decide), v2, b1_some, if_neg hnt2, i32_nat (show i < 2 ^ 31 by omega), v1, b1_some, d3.rc, b1_some, d3.size, b1_some, if_pos (show i32 n < (2 : Int32) from (i32_lt (b := 2) (by omega) (by decide)).mpr hn2), b1_some]
    rw [nO_eq, b2_some, nO_eq, b2_some, show mN (m_push μ (.inr (6, [.null, .int 0, .int 0]))) = mN μ + 1 from rfl]
    rw [v3, b1_some, v4, b1_some, r10, b1_some, s2, b2_some, r6, b1_some, s3, b2_some, d3a.rc, b1_some, s4, b2_some, s5, b1_some]
  · unfold R_M_name
    rw [R_isPlace g1 g2, b1_some, if_neg (by rw [bI_pos hx]; decide), R_isSpan, b1_some, if_neg (by rw [bI_pos hy]; decide), t1, if_neg hnt2, rgI_at (by omega) (by decide), d1, b1_some, if_neg (show ¬ i32 n = 2 from fun q => by have := (i32_inj (b := 2) (by omega) (by decide)).mp q; omega)]
    unfold RB_M_name_43
    rw [b0_eq, if_pos (show ri (rpI ρ 0 0) 0 ≤ 0 from by show (0 : Int32) ≤ 0; decide), rgI_at (by omega) (by decide), show ra (rpI ρ 0 0) 9 i = ra ρ 9 i from rfl, b1_some, b0_eq, b1_some, rsI_at (by omega) (by decide), b1_some, d1, i32_2]
    rw [d1] at r1 u1
    rw [show rset (rpI ρ 0 0) 9 (upd (ra (rpI ρ 0 0) 9) i (i32 n + 1)) = rset (rpI ρ 0 0) 9 (upd (ra ρ 9) i (i32 n + 1)) from rfl, r1]
    show b1 (rsI (fQ (rset (rpI ρ 0 0) 9 (upd (ra ρ 9) i (i32 n + 1))) (foL (ra ρ 22) nt) wf) 10 60 (i32 (2 * i + n)) y) _ = _
    rw [rsI_at (by omega) (by decide), b1_some, rsI_at (by omega) (by decide), b1_some, rsI_at (by omega) (by decide), b1_some]
    exact u1
  · by_cases hji : j = i
    · subst hji
      refine ⟨sh, sd, nm, lk, q1.ext e (by omega), (q2.ext e (by omega) (fun q _ _ => by omega)).same rfl rfl rfl rfl rfl, ⟨n + 1, (fun k => if k = n then mN μ else na k), ?_, hn2, d3b.ext k5' (by omega) (by omega), fun k hk => ?_⟩, (q4.ext e (by omega) (fun q _ _ => by omega)).same rfl rfl rfl rfl⟩
      · show upd (ra ρ 9) j (ra ρ 9 j + 1) j = _
        rw [upd_at, d1s]
      · by_cases hkn : k = n
        · subst hkn
          have hff : ∀ l, l < foL (ra ρ 22) nt → ff (10 * (2 * j + k) + l) = foW (ra ρ 22) nt l := fun l hl => (u2 l (by omega) hl).trans (r2 l hl)
          refine ⟨foL (ra ρ 22) nt, ?_, upd_at _ _ _, o3 (by omega), o2.fn hff⟩
          show NA0 ro4 _ (if k = k then mN μ else na k) (upd (ra ρ 10) (2 * j + k) y (2 * j + k)) (upd (ra ρ 11) (2 * j + k) z (2 * j + k)) _ _
          rw [if_pos rfl, upd_at, upd_at]
          exact ((hna.ext k4' (by omega)).ext k5' (by omega)).fn (fun l hl => (hff l hl).symm)
        · obtain ⟨len, w1, w2, w3, w4⟩ := d4 k (by omega)
          have hl := w4.1
          have hff : ∀ l, l < 10 → ff (10 * (2 * j + k) + l) = ra ρ 13 (10 * (2 * j + k) + l) := fun l hl => u3 _ (by omega)
          refine ⟨len, ?_, (upd_ne _ _ (by omega)).trans w2, w3, w4.fn (fun l hl2 => hff l (by omega))⟩
          show NA0 ro4 _ (if k = n then mN μ else na k) (upd (ra ρ 10) (2 * j + n) y (2 * j + k)) (upd (ra ρ 11) (2 * j + n) z (2 * j + k)) _ _
          rw [if_neg hkn, upd_ne _ _ (by omega), upd_ne _ _ (by omega)]
          exact (w1.ext e (by omega)).fn (fun l hl2 => (hff l (by omega)).symm)
    · obtain ⟨sh', sd', nm', lk', p1, p2, p3, p4⟩ := (g4 j hj).ext e (by omega) (fun q _ => by omega)
      exact ⟨sh', sd', nm', lk', p1, p2.same rfl rfl rfl rfl rfl, p3.rho (upd_ne _ _ hji) (fun k hk => ⟨upd_ne _ _ (by omega), upd_ne _ _ (by omega), upd_ne _ _ (by omega), fun l hl => u3 _ (by omega)⟩), p4.same rfl rfl rfl rfl⟩
  · exact h3.same (fun _ _ => rfl) (fun j hj => upd_ne (ra ρ 9) _ (by omega)) rfl rfl rfl rfl
