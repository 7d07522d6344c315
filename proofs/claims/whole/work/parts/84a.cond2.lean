/-! condition, second part -/
theorem Cn_init_eq {μ : Mem} {A wo : Nat} (h : mF μ A = some (.inr (1, [.int 0, .int 0, .int 0, .int 0, .null]))) (l : mW μ ≤ A) (k x y z : Int32) : S_Cn_init (some A) k x y z (some wo) μ = some ((), m_set μ A (.inr (1, [.int k, .int x, .int y, .int z, .ref wo]))) := by
  unfold S_Cn_init
  have p1 : pV μ (some A) 1 0 (vI k) = some (m_set μ A (.inr (1, [.int k, .int 0, .int 0, .int 0, .null]))) := pV_at _ h l (show 0 < 5 by decide)
  have p2 : pV (m_set μ A (.inr (1, [.int k, .int 0, .int 0, .int 0, .null]))) (some A) 1 1 (vI x) = some (m_set (m_set μ A (.inr (1, [.int k, .int 0, .int 0, .int 0, .null]))) A (.inr (1, [.int k, .int x, .int 0, .int 0, .null]))) := pV_at _ (set_at _ _ _) l (show 1 < 5 by decide)
  rw [set_set] at p2
  have p3 : pV (m_set μ A (.inr (1, [.int k, .int x, .int 0, .int 0, .null]))) (some A) 1 2 (vI y) = some (m_set (m_set μ A (.inr (1, [.int k, .int x, .int 0, .int 0, .null]))) A (.inr (1, [.int k, .int x, .int y, .int 0, .null]))) := pV_at _ (set_at _ _ _) l (show 2 < 5 by decide)
  rw [set_set] at p3
  have p4 : pV (m_set μ A (.inr (1, [.int k, .int x, .int y, .int 0, .null]))) (some A) 1 3 (vI z) = some (m_set (m_set μ A (.inr (1, [.int k, .int x, .int y, .int 0, .null]))) A (.inr (1, [.int k, .int x, .int y, .int z, .null]))) := pV_at _ (set_at _ _ _) l (show 3 < 5 by decide)
  rw [set_set] at p4
  have p5 : pV (m_set μ A (.inr (1, [.int k, .int x, .int y, .int z, .null]))) (some A) 1 4 (vR (some wo)) = some (m_set (m_set μ A (.inr (1, [.int k, .int x, .int y, .int z, .null]))) A (.inr (1, [.int k, .int x, .int y, .int z, .ref wo]))) := pV_at _ (set_at _ _ _) l (show 4 < 5 by decide)
  rw [set_set] at p5
  rw [rc_at h, b1_some, p1, b1_some, p2, b1_some, p3, b1_some, p4, b1_some, p5, b1_some]
theorem Cn_new {μ : Mem} (w : WF μ) {aT n : Nat} {ft t : Nat → Int32} (hT : mF μ aT = some (.inl (2, 10, .inl ft))) (hft : ∀ k, k < n → ft k = t k) (ht : ltr n t) (k x y z : Int32) : ∃ μ2 μ3, S_Wo_init (some (mN μ + 1)) (some aT) (i32 n) (m_push (m_push μ (.inr (1, [.int 0, .int 0, .int 0, .int 0, .null]))) (.inr (10, [.null, .int 0]))) = some ((), μ2) ∧ rc μ2 (some (mN μ)) 1 = some () ∧ S_Cn_init (some (mN μ)) k x y z (some (mN μ + 1)) μ2 = some ((), μ3) ∧ Fr (mN μ) μ μ3 ∧ ∀ ro : Nat → Nat, (∀ a, mN μ ≤ a → ro a = 0) → CN0 ro μ3 (mN μ) k x y z (foL t n) (foW t n) := by
  have f1 : Fr (mN μ) μ (m_push μ (.inr (1, [.int 0, .int 0, .int 0, .int 0, .null]))) := (Fr.rf w).push (Nat.le_refl _) _
  have c1 := push_at μ (.inr (1, [.int 0, .int 0, .int 0, .int 0, .null]))
  have hT1 := (f1.2.2.2.2 aT (w.lt hT)).trans hT
  obtain ⟨μ2, s2, f2, n2, hc2, hwo⟩ := Wo_init_eq f1.wf hT1 hft ht
  have n1 : mN (m_push μ (.inr (1, [.int 0, .int 0, .int 0, .int 0, .null]))) = mN μ + 1 := rfl
  rw [n1] at s2 f2 n2 hc2 hwo
  have c2 := (f2.2.2.2.2 (mN μ) (by omega)).trans c1
  have f2' : Fr (mN μ) μ μ2 := f1.tr (f2.lower (by omega))
  have l2 : mW μ2 ≤ mN μ := by rw [f2'.2.1]; exact w.1.2
  have s3 := Cn_init_eq (wo := mN μ + 1) c2 l2 k x y z
  refine ⟨μ2, _, s2, rc_at c2, s3, f2'.set (Nat.le_refl _) c2 _, fun ro hro => ⟨mN μ + 1, ⟨set_at _ _ _, hro _ (Nat.le_refl _)⟩, ?_⟩⟩
  exact (hwo ro (fun a ha _ => hro a (by omega))).set (by omega) c2 _
theorem R_cn {L q : Nat} (hL : L ≤ 10) (hq : q < 25) (m : Nat) : ∀ (k fuel : Nat) (ρ : RS), ri ρ 38 = i32 L → k + m = L → m < fuel → ∃ f, RB_M_condition_255 fuel (i32 q) (i32 k) ρ = some (ra ρ 23 0, rpI (rset ρ 29 f) 21 0) ∧ (∀ j, k ≤ j → j < L → f (10 * q + j) = ra ρ 39 j) ∧ (∀ j, j < 10 * q + k ∨ 10 * q + L ≤ j → f j = ra ρ 29 j) := by
  induction m with
  | zero =>
    intro k fuel ρ hn hk hf
    cases fuel with
    | zero => omega
    | succ fuel =>
      refine ⟨ra ρ 29, ?_, fun j h1 h2 => by omega, fun j _ => rfl⟩
      show (if ri ρ 38 ≤ i32 k then b0 (rpI ρ 21 0) (fun ρ292 => RB_M_condition_295 ρ292) else _) = _
      rw [hn, if_pos ((i32_le (by omega) (by omega)).mpr (by omega)), b0_eq]
      have hid : rset ρ 29 (ra ρ 29) = ρ := by
        show (ri ρ, rl ρ, va_up (ra ρ) 29 (ra ρ 29), rL ρ) = ρ
        have : va_up (ra ρ) 29 (ra ρ 29) = ra ρ := by
          funext q
          unfold va_up
          grind
        rw [this]
      rw [hid]
      unfold RB_M_condition_295
      rw [show rgI (rpI ρ 21 0) 23 5 0 = rgI (rpI ρ 21 0) 23 5 (i32 0) from rfl, rgI_at (by decide) (by decide), b1_some]
      rfl
  | succ m ih =>
    intro k fuel ρ hn hk hf
    cases fuel with
    | zero => omega
    | succ fuel =>
      obtain ⟨f, q1, q2, q3⟩ := ih (k + 1) fuel (rset ρ 29 (upd (ra ρ 29) (10 * q + k) (ra ρ 39 k))) hn (by omega) (by omega)
      refine ⟨f, ?_, fun j h1 h2 => ?_, fun j h1 => ?_⟩
      · show (if ri ρ 38 ≤ i32 k then _ else b1 (rgI ρ 39 10 (i32 k)) (fun x282 => b1 (rsI ρ 29 250 ((10 * i32 q) + i32 k) x282) (fun ρ283 => RB_M_condition_255 fuel (i32 q) (i32 k + 1) ρ283))) = _
        rw [hn, if_neg (fun q => by have := (i32_le (by omega) (by omega)).mp q; omega), rgI_at (by omega) (by decide), b1_some, i32_10, rsI_at (by omega) (by decide), b1_some, i32_succ]
        refine Eq.trans q1 ?_
        rw [rs2]
        rfl
      · by_cases hjk : j = k
        · subst hjk
          exact (q3 (10 * q + j) (.inl (by omega))).trans (upd_at _ _ _)
        · exact q2 j (by omega) h2
      · exact (q3 j (by omega)).trans (upd_ne _ _ (by omega))
/-- the ties after a new condition -/
theorem cond_inv {ro ro' : Nat → Nat} {b c v : Nat} {ρ ρ' : RS} {μ μ' : Mem} {N : Nat} {pl : Nat → Nat} {lPl aX aY nc rt aT nt' lC aW hH eE rR an n A L : Nat} {cq : Nat → Nat} {k x y z : Int32} (h2 : IPs ro μ ρ pl N lPl) (h3 : IA ρ N) (h4 : IK ro μ ρ aX aY nc) (h5 : IR ro μ ρ 0 rt) (h8 : IW ro μ ρ N aW) (h9 : IH ro μ ρ hH) (h10 : IE ro μ eE) (h11 : IS ro μ rR) (h12 : CN0 ro μ an 1 0 0 0 0 (fun _ => 0)) (h13 : IV ro μ v) (h14 : IB ro μ b) (h15 : WF μ) (h16 : LO μ) (hq : ∀ j, j < n → IQ ro μ ρ N j (cq j)) (hn : n < 5)
    (e : Ext (fun q => q = 2 ∨ q = 8 ∨ q = 9) ro μ ro' μ') (hP : Is ro' μ' c 2 (PFc lPl aX aY nc rt aT nt' lC aW hH eE rR an)) (hT : IT ro' μ' ρ' aT nt') (hA : AR ro' μ' lC 8 (n + 1) (fun j => if j = n then A else cq j)) (hN : CN0 ro' μ' A k x y z L (fun j => ra ρ' 29 (10 * n + j))) (hc : condQ N k x y z L) (hl : ltr L (fun j => ra ρ' 29 (10 * n + j)))
    (r1 : ri ρ' 1 = ri ρ 1) (r18 : ri ρ' 18 = ri ρ 18) (r36 : ri ρ' 36 = ri ρ 36) (s : ∀ j, j < 23 → ra ρ' j = ra ρ j) (s2 : ∀ j, 29 < j → j < 38 → ra ρ' j = ra ρ j) (e23 : ra ρ' 23 = upd (ra ρ 23) 0 (i32 (n + 1))) (e24 : ra ρ' 24 = upd (ra ρ 24) n k) (e25 : ra ρ' 25 = upd (ra ρ 25) n x) (e26 : ra ρ' 26 = upd (ra ρ 26) n y) (e27 : ra ρ' 27 = upd (ra ρ 27) n z) (e28 : ra ρ' 28 n = i32 L) (e28' : ∀ j, j ≠ n → ra ρ' 28 j = ra ρ 28 j) (e29 : ∀ j, j < 10 * n ∨ 10 * n + 10 ≤ j → ra ρ' 29 j = ra ρ 29 j) : Invt b c v ρ' μ' := by
  have hfar : ∀ q, q ≠ n → ra ρ' 24 q = ra ρ 24 q ∧ ra ρ' 25 q = ra ρ 25 q ∧ ra ρ' 26 q = ra ρ 26 q ∧ ra ρ' 27 q = ra ρ 27 q ∧ ra ρ' 28 q = ra ρ 28 q ∧ ∀ j, j < 10 → ra ρ' 29 (10 * q + j) = ra ρ 29 (10 * q + j) := by
    intro q hq
    rw [e24, e25, e26, e27]
    exact ⟨upd_ne _ _ hq, upd_ne _ _ hq, upd_ne _ _ hq, upd_ne _ _ hq, e28' q hq, fun j hj => e29 _ (by omega)⟩
  refine ⟨ro', N, pl, lPl, aX, aY, nc, rt, aT, nt', lC, aW, hH, eE, rR, an, hP, (h2.ext e (fun q hq => by omega)).same r1 (s _ (by decide)) (s _ (by decide)) (s _ (by decide)) (s _ (by decide)) (s _ (by decide)) (s _ (by decide)) (s _ (by decide)) (s _ (by decide)) (s _ (by decide)) (s _ (by decide)) (s _ (by decide)) (s _ (by decide)) (s _ (by decide)) (s _ (by decide)) (s _ (by decide)) (s _ (by decide)), h3.same (fun i _ => congrFun (s 4 (by decide)) i) (fun i _ => congrFun (s 9 (by decide)) i) (s _ (by decide)) (s _ (by decide)) (s _ (by decide)) (s _ (by decide)), (h4.ext e (by decide) (by decide)).same r18 (s _ (by decide)) (s _ (by decide)), (h5.ext e (by decide)).same (s2 _ (by decide) (by decide)) (s2 _ (by decide) (by decide)) (s2 _ (by decide) (by decide)), hT, ⟨n + 1, (fun j => if j = n then A else cq j), by rw [e23, upd_at], by omega, hA, fun j hj => ?_⟩, ?_, (h9.ext e (by decide) (by decide) (by decide)).same r36 (s2 _ (by decide) (by decide)), h10.ext e (by decide) (fun i _ => by omega), h11.ext e (by decide), h12.ext e (by decide), h13.ext e (by decide), h14.ext e, e.wf, e.lo h15 h16⟩
  · rw [show 5 * 0 + j = j by omega]
    by_cases hjn : j = n
    · subst hjn
      refine ⟨L, ?_, e28, ?_, hl⟩
      · show CN0 ro' μ' (if j = j then A else cq j) _ _ _ _ _ _
        rw [if_pos rfl, e24, e25, e26, e27, upd_at, upd_at, upd_at, upd_at]
        exact hN
      · rw [e24, e25, e26, e27, upd_at, upd_at, upd_at, upd_at]
        exact hc
    · show IQ ro' μ' ρ' N j (if j = n then A else cq j)
      rw [if_neg hjn]
      obtain ⟨f1, f2, f3, f4, f5, f6⟩ := hfar j hjn
      exact ((hq j (by omega)).ext e (by decide)).rho (Nat.le_refl _) f1 f2 f3 f4 f5 f6
  · obtain ⟨f, w1, w2⟩ := h8.ext e (fun q hq => by omega)
    refine ⟨f, w1, fun w hw => (w2 w hw).rho (Nat.le_refl _) (congrFun (s2 34 (by decide) (by decide)) _) (congrFun (s2 33 (by decide) (by decide)) _) (congrFun (s2 35 (by decide) (by decide)) _) (by rw [e23, upd_ne _ _ (by omega)]) (fun j hj => hfar _ (by omega)) (congrFun (s2 30 (by decide) (by decide)) _) (fun j hj => ⟨congrFun (s2 31 (by decide) (by decide)) _, congrFun (s2 32 (by decide) (by decide)) _⟩)⟩
set_option maxHeartbeats 4000000 in
theorem call_condition {b c v : Nat} {ρ : RS} {μ : Mem} (hI : Invt b c v ρ μ) (hov : ov b ρ μ = μ) (k x y z : Int32) : CallI (S_P_condition (some c) k x y z) (R_M_condition k x y z) [(0, 1), (1, 2)] b c v ρ μ := by
  have hI0 := hI
  obtain ⟨ro, N, pl, lPl, aX, aY, nc, rt, aT, nt, lC, aW, hH, eE, rR, an, h1, h2, h3, h4, h5, h6, h7, h8, h9, h10, h11, h12, h13, h14, h15, h16⟩ := hI
  obtain ⟨t1, t2, f, t3, t4, t5⟩ := h6
  obtain ⟨n, cq, d1, d2, d3, d4⟩ := h7
  have d4' : ∀ j, j < n → IQ ro μ ρ N j (cq j) := fun j hj => by have := d4 j hj; rw [show 5 * 0 + j = j by omega] at this; exact this
  obtain ⟨r, R1, R2⟩ := R_cond_eq h2.1 h2.2.1 t1 t2 k x y z
  have g23 : ∀ ρ1 : RS, rgI ρ1 23 5 0 = some (ra ρ1 23 0) := fun ρ1 => rgI_at (j := 0) (by decide) (by decide)
  by_cases hgood : aCq N k x y z ∧ (3 < k ∨ nt ≠ 0)
  case neg =>
    refine .inr ⟨0, m_up μ, 1, 0, rpI ρ 0 1, ?_, by decide, ?_, rfl, by decide, hI0.code 1⟩
    · obtain ⟨r0, S1, S2⟩ := S_are_eq (μ := m_up μ) h1.up h2 k x y z
      unfold S_P_condition
      rw [rc_at h1.up.1, b1_some, S1, b1_some]
      by_cases ha : aCq N k x y z
      · have hr : ¬ r0 = 0 := fun q => (S2.mp q) ha
        have h3k : ¬ 3 < k := fun q => hgood ⟨ha, .inl q⟩
        have hnt : nt = 0 := Decidable.byContradiction (fun q => hgood ⟨ha, .inr q⟩)
        rw [if_neg hr, if_neg h3k]
        unfold B_P_condition_32
        rw [if_neg (by decide), gI_at h1.up.1 rfl, b1_some, if_pos (by rw [hnt]; rfl)]
      · rw [if_pos (S2.mpr ha)]
    · rw [R1, R2.mpr hgood]
      rfl
  have hr : ¬ r = 0 := fun q => (R2.mp q) hgood
  have hR2 : R_M_condition k x y z ρ = if n = 5 then RB_M_condition_161 k x y z 2 ρ else RB_M_condition_161 k x y z 0 ρ := by
    rw [R1]
    unfold RB_M_condition_136
    rw [if_neg hr, g23, b1_some, d1]
    by_cases h5 : n = 5
    · rw [if_pos (by rw [h5]; rfl), if_pos h5]
    · rw [if_neg (show ¬ i32 n = 5 from fun q => h5 ((i32_inj (b := 5) (by omega) (by decide)).mp q)), if_neg h5]
  have hcls : ∀ j, j < n → ∃ ci fs, mF μ (cq j) = some (.inr (ci, fs)) ∧ ci ∈ [1, 2, 5, 6, 7] := by
    intro j hj
    obtain ⟨len, ⟨wo, w1, _⟩, _⟩ := d4' j hj
    exact ⟨1, _, w1.1, by decide⟩
  have hw : ¬ 3 < k → ¬ i32 nt = 0 := fun h3k q => by
    have := (i32_inj (b := 0) (by omega) (by decide)).mp q
    rcases hgood.2 with q2 | q2
    · exact h3k q2
    · exact q2 this
  by_cases h5n : n = 5
  case pos =>
    refine .inr ⟨1, m_up μ, 2, 0, rpI ρ 0 2, ?_, by decide, ?_, rfl, by decide, hI0.code 2⟩
    · obtain ⟨r0, S1, S2⟩ := S_are_eq (μ := m_up μ) h1.up h2 k x y z
      have hr0 : ¬ r0 = 0 := fun q => (S2.mp q) hgood.1
      have h56 : ∀ s : Int32, B_P_condition_56 (some c) k x y z s (m_up μ) = some (.inl 1, m_up μ) := by
        intro s
        unfold B_P_condition_56
        rw [gR_at h1.up.1 rfl, b1_some, AR.rc (μ := m_up μ) d3, b1_some, AR.size (μ := m_up μ) d3, b1_some, if_neg (show ¬ i32 n < (5 : Int32) from fun q => by have := (i32_lt (b := 5) (by omega) (by decide)).mp q; omega)]
      unfold S_P_condition
      rw [rc_at h1.up.1, b1_some, S1, b1_some, if_neg hr0]
      unfold B_P_condition_32
      by_cases h3k : 3 < k
      · rw [if_pos h3k, if_pos rfl, h56]
      · rw [if_neg h3k, if_neg (by decide), gI_at h1.up.1 rfl, b1_some, if_neg (hw h3k), h56]
    · rw [hR2, if_pos h5n]
      rfl
  rw [if_neg h5n] at hR2
  have hn5 : n < 5 := by omega
  have hnk : ∀ m : Nat, m = (if 3 < k then 0 else nt) → (m ≤ nt ∧ (¬ 3 < k → m = nt) ∧ (3 < k → m = 0)) := by
    intro m hm
    by_cases h3k : 3 < k
    · rw [if_pos h3k] at hm; exact ⟨by omega, fun q => absurd h3k q, fun _ => hm⟩
    · rw [if_neg h3k] at hm; exact ⟨by omega, fun _ => hm, fun q => absurd q h3k⟩
  generalize hm0 : (if 3 < k then 0 else nt) = m at hnk
  obtain ⟨hm1, hm2, hm3⟩ := hnk m rfl
  have t5m : ltr m (ra ρ 22) := ⟨by omega, fun j hj => t5.2 j (by omega)⟩
  obtain ⟨μ2, μ3, s2, r6, s3, fr, hcn⟩ := Cn_new h15 t3.1 (fun j hj => t4 j (by omega)) t5m k x y z
  have hcn := hcn (roN ro (mN μ) (fun _ => 0)) (fun a ha => roN_new ha)
  have e1 : Ext (fun q => q = 2 ∨ q = 8 ∨ q = 9) ro μ (roN ro (mN μ) (fun _ => 0)) μ3 := fr.ext h15 ro _
  have e0 : Ext (fun q => False) ro μ (roN ro (mN μ) (fun _ => 0)) μ3 := fr.ext h15 ro _
  have p2 := Is.old (Is.old h1 h15 0 (.inr (1, [.int 0, .int 0, .int 0, .int 0, .null]))) (Ext.push (W := fun _ => False) (ro := ro) h15 0 (.inr (1, [.int 0, .int 0, .int 0, .int 0, .null]))).wf 0 (.inr (10, [.null, .int 0]))
  have r10 : rc (m_push (m_push μ (.inr (1, [.int 0, .int 0, .int 0, .int 0, .null]))) (.inr (10, [.null, .int 0]))) (some (mN μ + 1)) 10 = some () := rc_at (push_at (m_push μ (.inr (1, [.int 0, .int 0, .int 0, .int 0, .null]))) (.inr (10, [.null, .int 0])))
  generalize roN ro (mN μ) (fun _ => 0) = ro1 at *
  have w1 := e1.wf
  have lo1 := e1.lo h15 h16
  have d3a := d3.ext e0 (fun q => q) (fun q => q)
  have h1a := h1.ext e0 (fun q => q)
  obtain ⟨wo, cn1, cn2⟩ := hcn
  have hcn : CN0 ro1 μ3 (mN μ) k x y z (foL (ra ρ 22) m) (foW (ra ρ 22) m) := ⟨wo, cn1, cn2⟩
  obtain ⟨ro4, μ4, s4, k4', d3b⟩ := Al_add_eq w1 lo1 d3a (by omega) cn1.1 (by decide) (fun j hj => by
    obtain ⟨len, ⟨wo, w1, w2⟩, _⟩ := (d4' j hj).ext e0 (fun q => q)
    exact ⟨1, _, w1.1, by decide⟩)
  have k4 : Ext (fun q => q = 2 ∨ q = 8 ∨ q = 9) ro1 μ3 ro4 μ4 := k4'.mono (fun r hr => by omega)
  have w4 := k4.wf
  have lo4 := k4.lo w1 lo1
  have h1b := h1a.ext k4' (by decide)
  have e4 := e1.tr k4
  have hcn4 := hcn.ext k4' (by decide)
  obtain ⟨o1, o2, o3⟩ := fo_ok t5m
  have vR7 : gR μ (some c) 11 7 = some (some lC) := gR_at h1.1 rfl
  have v3 : gR (m_push (m_push μ (.inr (1, [.int 0, .int 0, .int 0, .int 0, .null]))) (.inr (10, [.null, .int 0]))) (some c) 11 5 = some (some aT) := gR_at p2.1 rfl
  have v4 : gI (m_push (m_push μ (.inr (1, [.int 0, .int 0, .int 0, .int 0, .null]))) (.inr (10, [.null, .int 0]))) (some c) 11 6 = some (i32 nt) := gI_at p2.1 rfl
  have hcond : condQ N k x y z (foL (ra ρ 22) m) := by
    have hlen : ¬ 3 < k → 1 ≤ foL (ra ρ 22) m := fun h3k => o3 (by
      have h1 := hm2 h3k
      have h2 : nt ≠ 0 := fun q => (hw h3k) (by rw [q]; rfl)
      omega)
    have iB : ∀ {u : Int32} {M : Int32}, 0 ≤ u ∧ u ≤ M → 0 ≤ u.toInt ∧ u.toInt ≤ M.toInt := fun h => ⟨Int32.le_iff_toInt_le.mp h.1, Int32.le_iff_toInt_le.mp h.2⟩
    unfold condQ
    rcases hgood.1 with h | h | h | ⟨h, h'⟩ | ⟨h, h'⟩ | ⟨h, h'⟩ | ⟨h, h', h''⟩ | ⟨h, h'⟩
    · exact .inl ⟨.inl h, hlen (by rw [h]; decide)⟩
    · exact .inl ⟨.inr (.inl h), hlen (by rw [h]; decide)⟩
    · exact .inl ⟨.inr (.inr h), hlen (by rw [h]; decide)⟩
    · exact .inr (.inl ⟨h, hlen (by rw [h]; decide), iB h'⟩)
    · exact .inr (.inr (.inl h))
    · obtain ⟨i, hi1, hi2⟩ := id_of h2.2.1 h'
      exact .inr (.inr (.inr (.inl ⟨h, i, hi2, hi1⟩)))
    · exact .inr (.inr (.inr (.inr (.inl ⟨h, (posB h').1, (posB h').2, iB h''⟩))))
    · exact .inr (.inr (.inr (.inr (.inr ⟨h, iB h'⟩))))
  have hS56 : ∀ s : Int32, (s = 0 ↔ 3 < k) → B_P_condition_56 (some c) k x y z s μ = if s = 0 then B_P_condition_131 (some c) μ4 else b1 (pV μ4 (some c) 11 6 (vI 0)) (fun m128 => B_P_condition_131 (some c) m128) := by
    intro s hs
    have h111 : B_P_condition_111 (some c) s (some lC) (some (mN μ)) (some (mN μ)) k x y z (some (mN μ + 1)) (some (mN μ + 1)) (some aT) (i32 m) (m_push (m_push μ (.inr (1, [.int 0, .int 0, .int 0, .int 0, .null]))) (.inr (10, [.null, .int 0]))) = if s = 0 then B_P_condition_131 (some c) μ4 else b1 (pV μ4 (some c) 11 6 (vI 0)) (fun m128 => B_P_condition_131 (some c) m128) := by
      unfold B_P_condition_111
      rw [r10, b1_some, s2, b2_some, r6, b1_some, s3, b2_some, d3a.rc, b1_some, s4, b2_some]
    unfold B_P_condition_56
    rw [vR7, b1_some, d3.rc, b1_some, d3.size, b1_some, if_pos (show i32 n < (5 : Int32) from (i32_lt (b := 5) (by omega) (by decide)).mpr hn5), b1_some, nO_eq, b2_some, nO_eq, b2_some, show mN (m_push μ (.inr (1, [.int 0, .int 0, .int 0, .int 0, .null]))) = mN μ + 1 from rfl, v3, b1_some, v4, b1_some]
    by_cases h3k : 3 < k
    · rw [if_pos (hs.mpr h3k)]
      rw [hm3 h3k] at h111
      exact h111
    · rw [if_neg (fun q => h3k (hs.mp q)), ← hm2 h3k]
      exact h111
  have hS : S_P_condition (some c) k x y z μ = if 3 < k then B_P_condition_131 (some c) μ4 else b1 (pV μ4 (some c) 11 6 (vI 0)) (fun m128 => B_P_condition_131 (some c) m128) := by
    obtain ⟨r0, S1, S2⟩ := S_are_eq h1 h2 k x y z
    have hr0 : ¬ r0 = 0 := fun q => (S2.mp q) hgood.1
    unfold S_P_condition
    rw [rc_at h1.1, b1_some, S1, b1_some, if_neg hr0]
    unfold B_P_condition_32
    by_cases h3k : 3 < k
    · rw [if_pos h3k, if_pos rfl, if_pos h3k, hS56 0 ⟨fun _ => h3k, fun _ => rfl⟩, if_pos rfl]
    · rw [if_neg h3k, if_neg (by decide), gI_at h1.1 rfl, b1_some, if_neg (hw h3k), if_neg h3k, hS56 1 ⟨fun q => absurd q (by decide), fun q => absurd q h3k⟩, if_neg (by decide)]
  have h131 : ∀ μ5, Is ro4 μ5 c 2 (PFc lPl aX aY nc rt aT nt lC aW hH eE rR an) ∨ Is ro4 μ5 c 2 (PFc lPl aX aY nc rt aT 0 lC aW hH eE rR an) → AR ro4 μ5 lC 8 (n + 1) (fun j => if j = n then mN μ else cq j) → B_P_condition_131 (some c) μ5 = some (.inr (i32 (n + 1)), μ5) := by
    intro μ5 hp ha
    unfold B_P_condition_131
    have v7 : gR μ5 (some c) 11 7 = some (some lC) := by
      rcases hp with hp | hp
      · exact gR_at hp.1 rfl
      · exact gR_at hp.1 rfl
    rw [v7, b1_some, ha.rc, b1_some, ha.size, b1_some]
  have hu23 : ra ρ 23 0 + 1 = i32 (n + 1) := by rw [d1, i32_succ]
  have hR3 : RB_M_condition_161 k x y z 0 ρ = if 4 ≤ k then RB_M_condition_295 (rset (rset (rset (rset (rset (rset (rpI ρ 0 0) 23 (upd (ra ρ 23) 0 (i32 (n + 1)))) 24 (upd (ra ρ 24) n k)) 25 (upd (ra ρ 25) n x)) 26 (upd (ra ρ 26) n y)) 27 (upd (ra ρ 27) n z)) 28 (upd (ra ρ 28) n 0)) else c2 (R_M_foldTyped (rset (rset (rset (rset (rset (rset (rpI ρ 0 0) 23 (upd (ra ρ 23) 0 (i32 (n + 1)))) 24 (upd (ra ρ 24) n k)) 25 (upd (ra ρ 25) n x)) 26 (upd (ra ρ 26) n y)) 27 (upd (ra ρ 27) n z)) 28 (upd (ra ρ 28) n 0))) (fun x238 ρ238 => b1 (rsI ρ238 28 25 (i32 n) (ri ρ238 38)) (fun ρ251 => RB_M_condition_255 fu (i32 n) 0 ρ251)) := by
    unfold RB_M_condition_161
    rw [b0_eq, if_pos (show ri (rpI ρ 0 0) 0 ≤ 0 from by show (0 : Int32) ≤ 0; decide), g23, show ra (rpI ρ 0 0) 23 0 = ra ρ 23 0 from rfl, b1_some, b1_some, hu23, d1, show rsI (rpI ρ 0 0) 23 5 0 (i32 (n + 1)) = rsI (rpI ρ 0 0) 23 5 (i32 0) (i32 (n + 1)) from rfl, rsI_at (by decide) (by decide), b1_some, rsI_at (by omega) (by decide), b1_some, rsI_at (by omega) (by decide), b1_some, rsI_at (by omega) (by decide), b1_some, rsI_at (by omega) (by decide), b1_some, rsI_at (by omega) (by decide), b1_some]
    rfl
  have h34 : (4 ≤ k) ↔ 3 < k := by
    rw [Int32.le_iff_toInt_le, Int32.lt_iff_toInt_lt]
    have e3 : (3 : Int32).toInt = 3 := rfl
    have e4 : (4 : Int32).toInt = 4 := rfl
    omega
  have sRS : ∀ j, j < 23 → ra (rset (rset (rset (rset (rset (rset (rpI ρ 0 0) 23 (upd (ra ρ 23) 0 (i32 (n + 1)))) 24 (upd (ra ρ 24) n k)) 25 (upd (ra ρ 25) n x)) 26 (upd (ra ρ 26) n y)) 27 (upd (ra ρ 27) n z)) 28 (upd (ra ρ 28) n 0)) j = ra ρ j := by
    intro j hj
    show va_up (va_up (va_up (va_up (va_up (va_up (ra ρ) 23 _) 24 _) 25 _) 26 _) 27 _) 28 _ j = _
    rw [va_up_ne _ _ (by omega), va_up_ne _ _ (by omega), va_up_ne _ _ (by omega), va_up_ne _ _ (by omega), va_up_ne _ _ (by omega), va_up_ne _ _ (by omega)]
  have sRS2 : ∀ j, 28 < j → ra (rset (rset (rset (rset (rset (rset (rpI ρ 0 0) 23 (upd (ra ρ 23) 0 (i32 (n + 1)))) 24 (upd (ra ρ 24) n k)) 25 (upd (ra ρ 25) n x)) 26 (upd (ra ρ 26) n y)) 27 (upd (ra ρ 27) n z)) 28 (upd (ra ρ 28) n 0)) j = ra ρ j := by
    intro j hj
    show va_up (va_up (va_up (va_up (va_up (va_up (ra ρ) 23 _) 24 _) 25 _) 26 _) 27 _) 28 _ j = _
    rw [va_up_ne _ _ (by omega), va_up_ne _ _ (by omega), va_up_ne _ _ (by omega), va_up_ne _ _ (by omega), va_up_ne _ _ (by omega), va_up_ne _ _ (by omega)]
  have q23 : ra (rset (rset (rset (rset (rset (rset (rpI ρ 0 0) 23 (upd (ra ρ 23) 0 (i32 (n + 1)))) 24 (upd (ra ρ 24) n k)) 25 (upd (ra ρ 25) n x)) 26 (upd (ra ρ 26) n y)) 27 (upd (ra ρ 27) n z)) 28 (upd (ra ρ 28) n 0)) 23 = upd (ra ρ 23) 0 (i32 (n + 1)) := rfl
  have q24 : ra (rset (rset (rset (rset (rset (rset (rpI ρ 0 0) 23 (upd (ra ρ 23) 0 (i32 (n + 1)))) 24 (upd (ra ρ 24) n k)) 25 (upd (ra ρ 25) n x)) 26 (upd (ra ρ 26) n y)) 27 (upd (ra ρ 27) n z)) 28 (upd (ra ρ 28) n 0)) 24 = upd (ra ρ 24) n k := rfl
  have q25 : ra (rset (rset (rset (rset (rset (rset (rpI ρ 0 0) 23 (upd (ra ρ 23) 0 (i32 (n + 1)))) 24 (upd (ra ρ 24) n k)) 25 (upd (ra ρ 25) n x)) 26 (upd (ra ρ 26) n y)) 27 (upd (ra ρ 27) n z)) 28 (upd (ra ρ 28) n 0)) 25 = upd (ra ρ 25) n x := rfl
  have q26 : ra (rset (rset (rset (rset (rset (rset (rpI ρ 0 0) 23 (upd (ra ρ 23) 0 (i32 (n + 1)))) 24 (upd (ra ρ 24) n k)) 25 (upd (ra ρ 25) n x)) 26 (upd (ra ρ 26) n y)) 27 (upd (ra ρ 27) n z)) 28 (upd (ra ρ 28) n 0)) 26 = upd (ra ρ 26) n y := rfl
  have q27 : ra (rset (rset (rset (rset (rset (rset (rpI ρ 0 0) 23 (upd (ra ρ 23) 0 (i32 (n + 1)))) 24 (upd (ra ρ 24) n k)) 25 (upd (ra ρ 25) n x)) 26 (upd (ra ρ 26) n y)) 27 (upd (ra ρ 27) n z)) 28 (upd (ra ρ 28) n 0)) 27 = upd (ra ρ 27) n z := rfl
  have q28 : ra (rset (rset (rset (rset (rset (rset (rpI ρ 0 0) 23 (upd (ra ρ 23) 0 (i32 (n + 1)))) 24 (upd (ra ρ 24) n k)) 25 (upd (ra ρ 25) n x)) 26 (upd (ra ρ 26) n y)) 27 (upd (ra ρ 27) n z)) 28 (upd (ra ρ 28) n 0)) 28 = upd (ra ρ 28) n 0 := rfl
  have qi : ∀ j, j ≠ 0 → ri (rset (rset (rset (rset (rset (rset (rpI ρ 0 0) 23 (upd (ra ρ 23) 0 (i32 (n + 1)))) 24 (upd (ra ρ 24) n k)) 25 (upd (ra ρ 25) n x)) 26 (upd (ra ρ 26) n y)) 27 (upd (ra ρ 27) n z)) 28 (upd (ra ρ 28) n 0)) j = ri ρ j := fun j hj => va_up_ne _ _ hj
  have qi0 : ri (rset (rset (rset (rset (rset (rset (rpI ρ 0 0) 23 (upd (ra ρ 23) 0 (i32 (n + 1)))) 24 (upd (ra ρ 24) n k)) 25 (upd (ra ρ 25) n x)) 26 (upd (ra ρ 26) n y)) 27 (upd (ra ρ 27) n z)) 28 (upd (ra ρ 28) n 0)) 0 = 0 := rfl
  rw [hR3] at hR2
  generalize rset (rset (rset (rset (rset (rset (rpI ρ 0 0) 23 (upd (ra ρ 23) 0 (i32 (n + 1)))) 24 (upd (ra ρ 24) n k)) 25 (upd (ra ρ 25) n x)) 26 (upd (ra ρ 26) n y)) 27 (upd (ra ρ 27) n z)) 28 (upd (ra ρ 28) n 0) = ρ5 at *
  clear hR3
  by_cases h3k : 3 < k
  · have hm := hm3 h3k
    subst hm
    have hL0 : foL (ra ρ 22) 0 = 0 := rfl
    rw [hL0] at hcn4 hcond o2
    have hlt : ltr 0 (fun j => ra ρ5 29 (10 * n + j)) := ⟨by decide, fun j hj => absurd hj (Nat.not_lt_zero j)⟩
    refine .inl ⟨i32 (n + 1), μ4, ρ5, ?_, ov_keep hov h14 e4 (by decide), ?_, qi0, ?_⟩
    · rw [hS, if_pos h3k]
      exact h131 μ4 (.inl h1b) d3b
    · rw [hR2, if_pos (h34.mpr h3k)]
      unfold RB_M_condition_295
      rw [g23, b1_some, q23, upd_at]
    · exact cond_inv h2 h3 h4 h5 h8 h9 h10 h11 h12 h13 h14 h15 h16 d4' hn5 e4 h1b (IT.same (ρ := ρ) ⟨t1, t2, f, t3.ext e4 (by decide), t4, t5⟩ (qi _ (by decide)) (sRS _ (by decide))) d3b (hcn4.fn (fun j hj => absurd hj (Nat.not_lt_zero j))) hcond hlt (qi _ (by decide)) (qi _ (by decide)) (qi _ (by decide)) sRS (fun j hj _ => sRS2 j (by omega)) q23 q24 q25 q26 q27 (by rw [q28, upd_at]; rfl) (fun j hj => by rw [q28, upd_ne _ _ hj]) (fun j _ => congrFun (sRS2 29 (by decide)) j)
  · have hm := hm2 h3k
    subst hm
    have s5 : pV μ4 (some c) 11 6 (vI 0) = some (m_set μ4 c (PFc lPl aX aY nc rt aT 0 lC aW hH eE rR an)) := pV_at _ h1b.1 (h1b.low lo4) (show 6 < 13 by decide)
    have k5 : Ext (fun q => q = 2 ∨ q = 8 ∨ q = 9) ro4 μ4 ro4 (m_set μ4 c (PFc lPl aX aY nc rt aT 0 lC aW hH eE rR an)) := Ext.set w4 h1b (.inl rfl) _
    have k5' : Ext (fun q => q = 2) ro4 μ4 ro4 (m_set μ4 c (PFc lPl aX aY nc rt aT 0 lC aW hH eE rR an)) := Ext.set (W := fun q => q = 2) w4 h1b rfl _
    have h1c := h1b.set ro4 (PFc lPl aX aY nc rt aT 0 lC aW hH eE rR an)
    have e := e4.tr k5
    have d3c := d3b.ext k5' (by decide) (by decide)
    have hcn5 := hcn4.ext k5' (by decide)
    obtain ⟨wf, u1, u2⟩ := R_foldTyped_eq (ρ := ρ5) t5 ((qi 21 (by decide)).trans t1) (fun j _ => by rw [sRS 22 (by decide)])
    have hf28 : ra (fQ ρ5 (foL (ra ρ 22) m) wf) 28 = ra ρ5 28 := rfl
    obtain ⟨ff, v1, v2, v3'⟩ := R_cn (L := foL (ra ρ 22) m) (q := n) o2.1 (by omega) (foL (ra ρ 22) m) 0 fu (rset (fQ ρ5 (foL (ra ρ 22) m) wf) 28 (upd (ra ρ5 28) n (i32 (foL (ra ρ 22) m)))) rfl (by omega) (by have := o2.1; show foL (ra ρ 22) m < 4096; omega)
    have hff : ∀ j, j < foL (ra ρ 22) m → ff (10 * n + j) = foW (ra ρ 22) m j := fun j hj => (v2 j (by omega) hj).trans (u2 j hj)
    have hra : ∀ j, j ≠ 28 → j ≠ 29 → j ≠ 39 → ra (rpI (rset (rset (fQ ρ5 (foL (ra ρ 22) m) wf) 28 (upd (ra ρ5 28) n (i32 (foL (ra ρ 22) m)))) 29 ff) 21 0) j = ra ρ5 j := by
      intro j j1 j2 j3
      show va_up (va_up (va_up (ra ρ5) 39 wf) 28 _) 29 ff j = _
      rw [va_up_ne _ _ j2, va_up_ne _ _ j1, va_up_ne _ _ j3]
    have hri : ∀ j, j ≠ 0 → j ≠ 21 → j ≠ 38 → ri (rpI (rset (rset (fQ ρ5 (foL (ra ρ 22) m) wf) 28 (upd (ra ρ5 28) n (i32 (foL (ra ρ 22) m)))) 29 ff) 21 0) j = ri ρ j := by
      intro j j1 j2 j3
      show va_up (va_up (ri ρ5) 38 _) 21 0 j = _
      rw [va_up_ne _ _ j2, va_up_ne _ _ j3]
      exact qi j j1
    have hri0 : ri (rpI (rset (rset (fQ ρ5 (foL (ra ρ 22) m) wf) 28 (upd (ra ρ5 28) n (i32 (foL (ra ρ 22) m)))) 29 ff) 21 0) 0 = 0 := qi0
    have h28 : ra (rpI (rset (rset (fQ ρ5 (foL (ra ρ 22) m) wf) 28 (upd (ra ρ5 28) n (i32 (foL (ra ρ 22) m)))) 29 ff) 21 0) 28 = upd (ra ρ5 28) n (i32 (foL (ra ρ 22) m)) := rfl
    have h29 : ra (rpI (rset (rset (fQ ρ5 (foL (ra ρ 22) m) wf) 28 (upd (ra ρ5 28) n (i32 (foL (ra ρ 22) m)))) 29 ff) 21 0) 29 = ff := rfl
    have h21 : ri (rpI (rset (rset (fQ ρ5 (foL (ra ρ 22) m) wf) 28 (upd (ra ρ5 28) n (i32 (foL (ra ρ 22) m)))) 29 ff) 21 0) 21 = 0 := rfl
    have h23 : ra (rset (fQ ρ5 (foL (ra ρ 22) m) wf) 28 (upd (ra ρ5 28) n (i32 (foL (ra ρ 22) m)))) 23 0 = i32 (n + 1) := by
      show ra ρ5 23 0 = _
      rw [q23, upd_at]
    have h3k4 : ¬ 4 ≤ k := fun q => h3k (h34.mp q)
    rw [h23] at v1
    have hRf : R_M_condition k x y z ρ = some (i32 (n + 1), rpI (rset (rset (fQ ρ5 (foL (ra ρ 22) m) wf) 28 (upd (ra ρ5 28) n (i32 (foL (ra ρ 22) m)))) 29 ff) 21 0) := by
      rw [hR2, if_neg h3k4, u1]
      show b1 (rsI (fQ ρ5 (foL (ra ρ 22) m) wf) 28 25 (i32 n) (i32 (foL (ra ρ 22) m))) _ = _
      rw [rsI_at (by omega) (by decide), b1_some, hf28]
      exact v1
    generalize rpI (rset (rset (fQ ρ5 (foL (ra ρ 22) m) wf) 28 (upd (ra ρ5 28) n (i32 (foL (ra ρ 22) m)))) 29 ff) 21 0 = ρ6 at *
    refine .inl ⟨i32 (n + 1), _, ρ6, ?_, ov_keep hov h14 e (by decide), hRf, hri0, ?_⟩
    · rw [hS, if_neg h3k, s5, b1_some]
      exact h131 _ (.inr h1c) d3c
    · refine cond_inv h2 h3 h4 h5 h8 h9 h10 h11 h12 h13 h14 h15 h16 d4' hn5 e h1c ⟨h21, by decide, f, t3.ext e (by decide), fun j hj => absurd hj (Nat.not_lt_zero j), ⟨by decide, fun j hj => absurd hj (Nat.not_lt_zero j)⟩⟩ d3c (hcn5.fn (fun j hj => ?_)) hcond (o2.fn (fun j hj => ?_)) (hri _ (by decide) (by decide) (by decide)) (hri _ (by decide) (by decide) (by decide)) (hri _ (by decide) (by decide) (by decide)) (fun j hj => (hra j (by omega) (by omega) (by omega)).trans (sRS j hj)) (fun j hj hj2 => (hra j (by omega) (by omega) (by omega)).trans (sRS2 j (by omega))) ((hra 23 (by decide) (by decide) (by decide)).trans q23) ((hra 24 (by decide) (by decide) (by decide)).trans q24) ((hra 25 (by decide) (by decide) (by decide)).trans q25) ((hra 26 (by decide) (by decide) (by decide)).trans q26) ((hra 27 (by decide) (by decide) (by decide)).trans q27) (by rw [h28, upd_at]) (fun j hj => by rw [h28, upd_ne _ _ hj, q28, upd_ne _ _ hj]) (fun j hj => ?_)
      · rw [h29, hff j hj]
      · rw [h29, hff j hj]
      · rw [h29, v3' j (by have := o2.1; omega)]
        exact congrFun (sRS2 29 (by decide)) j
