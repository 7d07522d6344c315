/-! find -/
theorem first_hi {ρ ρ' : RS} {n : Nat} {lo hi r : Int32} (e : frR ρ ρ') (h5 : n ≤ 5) (h23 : ra ρ 23 0 = i32 n) (hr : R_M_firstCondition lo hi ρ = some r) : R_M_firstCondition lo hi ρ' = some r := by
  obtain ⟨a, a1, a2⟩ := R_first_eq lo hi h5 h23
  obtain ⟨b, b1', b2⟩ := R_first_eq (ρ := ρ') lo hi h5 (by rw [e.2 23 (by decide)]; exact h23)
  rw [a1] at hr
  have har : a = r := Option.some.inj hr
  rw [e.2 24 (by decide)] at b2
  rw [b1', ← har]
  rcases a2 with ⟨q1, q2⟩ | ⟨q, q1, q2, q3, q4⟩
  · rw [b2.one q2, q1]
  · rw [b2.at q1 q3 q4, q2]
theorem find_loop {ro : Nat → Nat} {μ0 : Mem} {ρ0 : RS} {pl : Nat → Nat} {N c lPl aX aY nc rt aT nt lC aW hH eE rR an H1 K1 cd m : Nat} {o2 : Option Nat} {u : Nat → Int32} {kind x y z r1 r2 o day : Int32} (ho : o = 0 ∨ o = 1 ∨ o = 2 ∨ o = 3) (w0 : WF μ0) (lo0 : LO μ0) (h1 : Is ro μ0 c 2 (PFc lPl aX aY nc rt aT nt lC aW hH eE rR an)) (h2 : IPs ro μ0 ρ0 pl N lPl) (hA : IA ρ0 N) (hC : IC ro μ0 ρ0 N 0 lC 8) (hr : IR ro μ0 ρ0 0 rt) (hn : ncQ ro μ0 ρ0 cd kind x y z m u r1) (hn1 : R_M_firstCondition 0 3 ρ0 = some r1) (hc : arQ ro μ0 ρ0 o2 r2) (hc1 : R_M_firstCondition 7 7 ρ0 = some r2) (M : Nat) : ∀ (k n fuel fuel' : Nat) (μ : Mem) (ρ : RS) (h : Nat → Nat) (κ : Nat → Int64), Ext WNq ro μ0 ro μ → hiR ρ0 ρ → IE ro μ eE → IS ro μ rR → HL ro μ hH H1 K1 n (ra ρ 37) κ h k → (∀ j, j < n → KRq o ρ (κ (h j)) (h j)) → ri ρ 36 = i32 n → k + M = N → M < fuel → M < fuel' → ∃ (μ' : Mem) (ρ' : RS) (n' : Nat) (h' : Nat → Nat) (κ' : Nat → Int64), B_P_find_47 fuel (some c) day o (some cd) o2 (i32 k) μ = some (.inr (i32 n'), μ') ∧ RB_M_find_41 fuel' day o (i32 k) ρ = some (i32 n', ρ') ∧ Ext WNq ro μ0 ro μ' ∧ hiR ρ0 ρ' ∧ IE ro μ' eE ∧ IS ro μ' rR ∧ HL ro μ' hH H1 K1 n' (ra ρ' 37) κ' h' N ∧ ri ρ' 36 = i32 n' := by
  have hN := h2.2.1
  have w20 : ∀ q, (q < 11 ∨ q = 14 ∨ (15 < q ∧ q < 20) ∨ 31 ≤ q) → ¬ WNq q := fun q h => WNq.no h
  have w21 : ∀ q, (q < 15 ∨ (15 < q ∧ q < 20) ∨ 31 ≤ q) → ¬ WMt q := fun q h z => by unfold WMt at z; omega
  have hC' := hC
  obtain ⟨nC, cqC, hC1, hC2, hC3, hC4⟩ := hC'
  induction M with
  | zero =>
    intro k n fuel fuel' μ ρ h κ e sc hE hS hL hK h36 hk hf hf'
    cases fuel with
    | zero => omega
    | succ fuel =>
      cases fuel' with
      | zero => omega
      | succ fuel' =>
        have h11 := h1.ext e (w20 _ (by omega))
        have h21 := h2.ext e (fun z hz => w20 z (by omega))
        have hkN : N = k := by omega
        refine ⟨μ, ρ, n, h, κ, ?_, ?_, e, sc, hE, hS, by rw [hkN]; exact hL, h36⟩
        · show b1 (gR μ (some c) 11 0) (fun x29 => b1 (rc μ x29 0) (fun _ => b1 (S_Al_size x29 μ) (fun x32 => if x32 ≤ i32 k then b1 (gR μ (some c) 11 9) (fun x95 => b1 (gI μ x95 4 2) (fun x98 => some ((Sum.inr x98 : Nat ⊕ Int32), μ))) else _))) = _
          rw [gR_at h11.1 (k := 0) rfl, b1_some, h21.2.2.1.rc, b1_some, h21.2.2.1.size, b1_some, if_pos ((i32_le (by omega) (by omega)).mpr (by omega)), gR_at h11.1 (k := 9) rfl, b1_some, gI_at hL.2.1.1 (k := 2) rfl, b1_some]
        · show (if ri ρ 1 ≤ i32 k then some (ri ρ 36, ρ) else _) = _
          rw [sc.1.1.1, h2.1, if_pos ((i32_le (by omega) (by omega)).mpr (by omega)), h36]
  | succ M ih =>
    intro k n fuel fuel' μ ρ h κ e sc hE hS hL hK h36 hk hf hf'
    cases fuel with
    | zero => omega
    | succ fuel =>
      cases fuel' with
      | zero => omega
      | succ fuel' =>
        have hkN : k < N := by omega
        have h11 := h1.ext e (w20 _ (by omega))
        have h21 := h2.ext e (fun z hz => w20 z (by omega))
        have hp := h21.2.2.2 k hkN
        obtain ⟨sh, sd, nm, lk, p1, p2⟩ := hp
        have expC : B_P_find_47 (fuel + 1) (some c) day o (some cd) o2 (i32 k) μ = b2 (S_P_meets (some c) (some (pl k)) (some lC) (some rt) day μ) (fun x85 m85 => if x85 = 0 then B_P_find_47 fuel (some c) day o (some cd) o2 (i32 (k + 1)) m85 else b1 (gR m85 (some c) 11 9) (fun x92 => b1 (rc m85 (some c) 11) (fun _ => b2 (S_P_orderKey (some c) (some (pl k)) o (some cd) o2 day m85) (fun x105 m105 => b1 (rc m105 x92 4) (fun _ => b2 (S_Hi_add x92 (i32 k) x105 m105) (fun x108 m108 => B_P_find_47 fuel (some c) day o (some cd) o2 (i32 (k + 1)) m108)))))) := by
          show b1 (gR μ (some c) 11 0) (fun x50 => b1 (rc μ x50 0) (fun _ => b1 (S_Al_size x50 μ) (fun x53 => if x53 ≤ i32 k then _ else b1 (gR μ (some c) 11 0) (fun x60 => b1 (rc μ x60 0) (fun _ => b1 (S_Al_get x60 (i32 k) μ) (fun x65 => b1 (cK μ x65 7) (fun _ => b1 (gR μ (some c) 11 7) (fun x77 => b1 (gR μ (some c) 11 4) (fun x81 => b1 (rc μ (some c) 11) (fun _ => b2 (S_P_meets (some c) x65 x77 x81 day μ) (fun x85 m85 => if x85 = 0 then B_P_find_47 fuel (some c) day o (some cd) o2 (i32 k + 1) m85 else b1 (gR m85 (some c) 11 9) (fun x92 => b1 (rc m85 (some c) 11) (fun _ => b2 (S_P_orderKey (some c) x65 o (some cd) o2 day m85) (fun x105 m105 => b1 (rc m105 x92 4) (fun _ => b2 (S_Hi_add x92 (i32 k) x105 m105) (fun x108 m108 => B_P_find_47 fuel (some c) day o (some cd) o2 (i32 k + 1) m108)))))))))))))))) = _
          rw [gR_at h11.1 (k := 0) rfl, b1_some, h21.2.2.1.rc, b1_some, h21.2.2.1.size, b1_some, if_neg (fun z => by have := (i32_le (by omega) (by omega)).mp z; omega), b1_some, h21.2.2.1.rc, b1_some, h21.2.2.1.get hkN, b1_some, cK_at p1.1, b1_some, gR_at h11.1 (k := 7) rfl, b1_some, gR_at h11.1 (k := 4) rfl, b1_some, rc_at h11.1, b1_some, i32_succ]
        have expR : RB_M_find_41 (fuel' + 1) day o (i32 k) ρ = c2 (R_M_meets (i32 k) day (i32 0) ρ) (fun x53 ρ53 => if x53 = 0 then RB_M_find_41 fuel' day o (i32 (k + 1)) ρ53 else c2 (R_M_makeKeys (i32 k) day o ρ53) (fun x66 ρ66 => c2 (R_M_insert (i32 k) o ρ66) (fun x72 ρ72 => RB_M_find_41 fuel' day o (i32 (k + 1)) ρ72))) := by
          show (if ri ρ 1 ≤ i32 k then _ else c2 (R_M_meets (i32 k) day 0 ρ) (fun x53 ρ53 => if x53 = 0 then RB_M_find_41 fuel' day o (i32 k + 1) ρ53 else c2 (R_M_makeKeys (i32 k) day o ρ53) (fun x66 ρ66 => c2 (R_M_insert (i32 k) o ρ66) (fun x72 ρ72 => RB_M_find_41 fuel' day o (i32 k + 1) ρ72)))) = _
          rw [sc.1.1.1, h2.1, if_neg (fun z => by have := (i32_le (by omega) (by omega)).mp z; omega), i32_succ k]
          rfl
        rw [expC, expR]
        obtain ⟨μ1, ρ1, r, f1, f2, f3, f4, f5, f6, f7, f8⟩ := meets_eq (i := k) (s := 0) day e.wf (e.lo w0 lo0) h11 (h21.fr sc.1) (hA.fr sc.1) hE hS ((hr.ext e (w20 _ (by omega))).fr sc.1) ((hC.ext e (w20 _ (by omega)) (w20 _ (by omega)) (w20 _ (by omega))).fr sc.1) (w21 _ (by omega)) (w21 _ (by omega)) (by omega) hkN
        have e1 : Ext WNq ro μ0 ro μ1 := e.tr (f4.mono (fun r hr => .inl hr))
        have sc1 := sc.tr f7.hi
        have hL1 : HL ro μ1 hH H1 K1 n (ra ρ1 37) κ h k := by
          rw [f7.a 37]
          exact hL.ext f4 (w21 _ (by omega)) (w21 _ (by omega)) (w21 _ (by omega))
        have h361 : ri ρ1 36 = i32 n := (f7.i 36).trans h36
        have hK1 : ∀ j, j < n → KRq o ρ1 (κ (h j)) (h j) := fun j hj => (hK j hj).keep f7.fr (f7.ky _)
        rw [f1, b2_some, f2, c2_some]
        rcases f3 with rfl | rfl
        · rw [if_pos rfl, if_pos rfl]
          exact ih (k + 1) n fuel fuel' μ1 ρ1 h κ e1 sc1 f5 f6 hL1.skip hK1 h361 (by omega) (by omega) (by omega)
        · rw [if_neg (by decide), if_neg (by decide)]
          obtain ⟨k0, a0, _, s20, hk0, _⟩ := f8 rfl
          have h12 := h1.ext e1 (w20 _ (by omega))
          have hP1 := ((h2.ext e1 (fun z hz => w20 z (by omega))).fr sc1.1).2.2.2 k hkN
          obtain ⟨k3, a3, ob, t1, t2, _, _, t5, t6⟩ := hP1.shape (by omega) day
          rw [shapeOf_sc f7, s20] at t2
          have hob : ob = true := by
            cases ob with
            | true => rfl
            | false => exact absurd (Option.some.inj t2) (ne_m1 (by omega))
          subst hob
          have t2' : R_M_shapeOf (i32 k) day ρ1 = some (i32 (3 * k + k3)) := by
            rw [shapeOf_sc f7, s20, t2]
            rfl
          obtain ⟨μ2, ρ2, κk, g1, g2, g3, g4, g5, g6, g7⟩ := key_eq (o2 := o2) (r1 := r1) (r2 := r2) (cd := cd) (N := N) (rt := rt) (rR := rR) (eE := eE) ho day e1.wf (e1.lo w0 lo0) h12 hP1 (by omega) f5 f6 ((hr.ext e1 (w20 _ (by omega))).fr sc1.1) ((hn.ext e1 (w20 _ (by omega))).hi sc1.1) (first_hi sc1.1 hC2 hC1 hn1) ((hc.ext e1 (w20 _ (by omega))).hi sc1.1) (first_hi sc1.1 hC2 hC1 hc1) t1 t2' t5 (t6 rfl)
          have e2 : Ext WNq ro μ0 ro μ2 := e1.tr (g3.mono (fun r hr => .inl hr))
          have sc2 := sc1.tr g6.1
          have hlt : ∀ j, j < n → h j < k := fun j hj => (hL.2.2.2.2 j hj).2
          have hL2 : HL ro μ2 hH H1 K1 n (ra ρ2 37) (fun j => if j = k then κk else κ j) h k := by
            rw [g6.2.2.1]
            exact (hL1.ext g3 (w21 _ (by omega)) (w21 _ (by omega)) (w21 _ (by omega))).key (fun j hj => if_neg (by omega))
          have hK2 : ∀ j, j < n → KRq o ρ2 ((fun j => if j = k then κk else κ j) (h j)) (h j) := fun j hj => by
            have := hlt j hj
            show KRq o ρ2 (if h j = k then κk else κ (h j)) (h j)
            rw [if_neg (by omega)]
            exact (hK1 j hj).keep g6.1.1 (g6.2.2.2 _ (by omega))
          have hKk : KRq o ρ2 ((fun j => if j = k then κk else κ j) k) k := by
            show KRq o ρ2 (if k = k then κk else κ k) k
            rw [if_pos rfl]
            exact g7
          have frF : ∀ F', frR ρ2 (rset ρ2 37 F') := fun F' => ⟨⟨rfl, rfl, rfl⟩, fun j hj => va_up_ne _ _ (by omega)⟩
          have kyF : ∀ F' j, kyR ρ2 (rset ρ2 37 F') j := fun F' j => ⟨rfl, rfl, rfl, rfl, rfl⟩
          obtain ⟨μ3, F, h', q1, q2, q3, q4, q5⟩ := hit_add (order := o) hL2 (g6.2.1.trans h361) (by omega) e2.wf (e2.lo w0 lo0) (fun F' j hj => KRq.cmp (by have := hlt j hj; omega) (by omega) ((hK2 j hj).keep (frF F') (kyF F' _)) (hKk.keep (frF F') (kyF F' _)))
          rw [if_pos rfl] at q1
          rw [gR_at h12.1 (k := 9) rfl, b1_some, rc_at h12.1, b1_some, g1, b2_some, rc_at hL2.2.1.1, b1_some, q1, b2_some, g2, c2_some, q2, c2_some]
          have frI : frR ρ2 (rpI (rset ρ2 37 F) 36 (i32 (n + 1))) := (hiR.ins ρ2 F _).1
          refine ih (k + 1) (n + 1) fuel fuel' μ3 _ h' _ (e2.tr (q3.mono (fun r hr => .inr hr))) (sc2.tr (hiR.ins _ _ _)) (g4.ext q3 (by unfold WH; omega) (fun i _ => by unfold WH; omega)) (g5.ext q3 (by unfold WH; omega)) q4 (fun j hj => ?_) rfl (by omega) (by omega) (by omega)
          rcases q5 j hj with z1 | ⟨j', z1, z2⟩
          · rw [z1]
            exact hKk.keep frI ⟨rfl, rfl, rfl, rfl, rfl⟩
          · rw [z2]
            exact (hK2 j' z1).keep frI ⟨rfl, rfl, rfl, rfl, rfl⟩
theorem ord4 {o : Int32} (h1 : 0 ≤ o) (h2 : o ≤ 3) : o = 0 ∨ o = 1 ∨ o = 2 ∨ o = 3 := by
  obtain ⟨n, rfl, hn⟩ := i32_pos (i32_nlt.mpr h1)
  have h3 : n ≤ 3 := (i32_le (b := 3) hn (by decide)).mp h2
  have : n = 0 ∨ n = 1 ∨ n = 2 ∨ n = 3 := by omega
  rcases this with rfl | rfl | rfl | rfl
  · exact .inl rfl
  · exact .inr (.inl rfl)
  · exact .inr (.inr (.inl rfl))
  · exact .inr (.inr (.inr rfl))
theorem call_find {b c v : Nat} {ρ : RS} {μ : Mem} (hI : Invt b c v ρ μ) (hov : ov b ρ μ = μ) (day o : Int32) : CallI (S_P_find (some c) day o) (R_M_find day o) [(0, 1)] b c v ρ μ := by
  have hI0 := hI
  obtain ⟨ro, N, pl, lPl, aX, aY, nc, rt, aT, nt, lC, aW, hH, eE, rR, an, h1, h2, h3, h4, h5, h6, h7, h8, h9, h10, h11, h12, h13, h14, h15, h16⟩ := hI
  by_cases hd : 0 ≤ day ∧ day ≤ 9999
  · by_cases hoo : 0 ≤ o ∧ o ≤ 3
    · have ho := ord4 hoo.1 hoo.2
      have fr0 : frR ρ (rpI (rpI ρ 0 0) 36 (i32 0)) := ⟨⟨rfl, rfl, rfl⟩, fun _ _ => rfl⟩
      have fr1 : frR ρ (rpI ρ 0 0) := ⟨⟨rfl, rfl, rfl⟩, fun _ _ => rfl⟩
      have hN := h2.2.1
      obtain ⟨H1, K1, n0, f0, g0, y1, y2, y3, y4, y5, y6⟩ := h9
      obtain ⟨μ1, s1, k1, i1⟩ := Hi_empty_eq h15 h16 y1
      have k2 : Ext WNq ro μ ro μ1 := k1.mono (fun r hr => .inr (.inl hr))
      obtain ⟨cd, kind, x, y, z, m, u, r1, d1, d2, d3⟩ := name_cond h1 h7 h12
      obtain ⟨o2, r2, a1, a2, a3⟩ := around_cond h1 h7
      have h7' := h7
      obtain ⟨nC, cqC, hC1, hC2, hC3, hC4⟩ := h7'
      obtain ⟨μ2, ρ2, n2, h', κ', L1, L2, L3, L4, L5, L6, L7, L8⟩ := find_loop (ρ0 := rpI (rpI ρ 0 0) 36 (i32 0)) (day := day) (rR := rR) (eE := eE) (H1 := H1) (K1 := K1) ho h15 h16 h1 (h2.fr fr0) (h3.fr fr0) (h7.fr fr0) (h5.fr fr0) (d3.hi fr0) (first_hi fr0 hC2 hC1 d2) (a3.hi fr0) (first_hi fr0 hC2 hC1 a2) N 0 0 fu fu μ1 (rpI (rpI ρ 0 0) 36 (i32 0)) (fun _ => 0) (fun _ => 0) k2 (hiR.rf _) (h10.ext k1 (by decide) (fun i _ => by omega)) (h11.ext k1 (by decide)) (hL0 _ _ i1 (y4.ext k1 (by decide)) (y5.ext k1 (by decide))) (fun j hj => absurd hj (Nat.not_lt_zero j)) rfl (by omega) (by show N < 4096; omega) (by show N < 4096; omega)
      have hz : ri ρ2 0 = 0 := L4.2.2
      have hiq : frR ρ ρ2 := ⟨⟨L4.1.1.1, L4.1.1.2.1, L4.1.1.2.2⟩, fun j hj => L4.1.2 j hj⟩
      refine .inl ⟨i32 n2, μ2, ρ2, ?_, ov_keep hov h14 L3 (WNq.no (by omega)), ?_, hz, ?_⟩
      · unfold S_P_find
        rw [S_isDay, b1_some, if_neg (by rw [bI_pos hd]; decide), if_neg (i32_nlt.mpr hoo.1), if_pos hoo.2, rc_at h1.1, b1_some, d1, b1_some, b1_some, a1, b1_some, gR_at h1.1 (k := 9) rfl, b1_some, rc_at y1.1, b1_some, s1, b2_some, show (0 : Int32) = i32 0 from rfl, L1]
      · unfold R_M_find RB_M_find_22
        rw [R_isDay, b1_some, if_neg (by rw [bI_pos hd]; decide), R_in, b1_some, if_neg (by rw [bI_pos hoo]; decide), b0_eq, if_pos (show ri (rpI ρ 0 0) 0 ≤ 0 from by show (0 : Int32) ≤ 0; decide), b0_eq]
        exact L2
      · have hk0 : hiR (rpI ρ 0 0) ρ2 := ⟨hiq, L4.2.1, L4.2.2⟩
        exact hits_keep (ρ := rpI ρ 0 0) L3 hk0 h1 (h2.fr fr1) (h3.fr fr1) (h4.fr fr1) (h5.fr fr1) (h6.fr fr1) (h7.fr fr1) (h8.fr fr1 rfl) (L7.ih L8 (by omega)) L5 L6 h12 h13 h14 h15 h16
    · refine .inr ⟨0, m_up μ, 1, 0, rpI ρ 0 1, ?_, by decide, ?_, rfl, by decide, hI0.code 1⟩
      · unfold S_P_find B_P_find_16
        rw [S_isDay, b1_some, if_neg (by rw [bI_pos hd]; decide)]
        by_cases c1 : o < 0
        · rw [if_pos c1]
        · rw [if_neg c1, if_neg (fun q => hoo ⟨i32_nlt.mp c1, q⟩)]
      · unfold R_M_find
        rw [R_isDay, b1_some, if_neg (by rw [bI_pos hd]; decide), R_in, b1_some, if_pos (bI_neg hoo)]
        rfl
  · refine .inr ⟨0, m_up μ, 1, 0, rpI ρ 0 1, ?_, by decide, ?_, rfl, by decide, hI0.code 1⟩
    · unfold S_P_find B_P_find_16
      rw [S_isDay, b1_some, if_pos (bI_neg hd)]
    · unfold R_M_find
      rw [R_isDay, b1_some, if_pos (bI_neg hd)]
      rfl
