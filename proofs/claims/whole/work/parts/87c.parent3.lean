/-! parent, the call -/
theorem ILk.v {ro : Nat → Nat} {μ : Mem} {ρ : RS} {pl : Nat → Nat} {N i lk : Nat} (h : ILk ro μ ρ pl N i lk) (hN : N ≤ 30) : nSp ρ i ≤ 4 ∧ ra ρ 14 i = i32 (nSp ρ i) ∧ ∃ li : Nat → Nat, AR ro μ lk (100 + 10 * i + 6) (nSp ρ i) li ∧ ∀ k, k < nSp ρ i → LK0 ro μ (li k) (pl (ra ρ 15 (4 * i + k)).toNatClampNeg) (ra ρ 16 (4 * i + k)) (ra ρ 17 (4 * i + k)) ∧ (ra ρ 15 (4 * i + k)).toNatClampNeg < N ∧ ra ρ 15 (4 * i + k) = i32 (ra ρ 15 (4 * i + k)).toNatClampNeg := by
  obtain ⟨n, li, h1, h2, h3, h4⟩ := h
  have hn : nSp ρ i = n := i32_back h1 (by omega)
  rw [hn]
  refine ⟨h2, h1, li, h3, fun k hk => ?_⟩
  obtain ⟨j, p1, p2, p3⟩ := h4 k hk
  rw [i32_back p2 (by omega)]
  exact ⟨p1, p3, p2⟩
set_option maxHeartbeats 4000000 in
theorem call_parent {b c v : Nat} {ρ : RS} {μ : Mem} (hI : Invt b c v ρ μ) (hov : ov b ρ μ = μ) (x y f t : Int32) : CallU (S_P_parent (some c) x y f t) (R_M_parent x y f t) [(0, 1), (2, 2), (1, 3)] b c v ρ μ := by
  have hI0 := hI
  obtain ⟨ro, N, pl, lPl, aX, aY, nc, rt, aT, nt, lC, aW, hH, eE, rR, an, h1, h2, h3, h4, h5, h6, h7, h8, h9, h10, h11, h12, h13, h14, h15, h16⟩ := hI
  have h2' := h2
  obtain ⟨g1, g2, g3, g4⟩ := h2
  have hbad : ¬ ((0 ≤ x ∧ x < i32 N) ∧ (0 ≤ y ∧ y < i32 N) ∧ ((0 ≤ f ∧ f ≤ 9999) ∧ (0 ≤ t ∧ t ≤ 9999) ∧ f ≤ t)) → CallU (S_P_parent (some c) x y f t) (R_M_parent x y f t) [(0, 1), (2, 2), (1, 3)] b c v ρ μ := by
    intro hb
    refine .inr ⟨0, m_up μ, 1, rpI ρ 0 1, ?_, by decide, ?_, rfl, by decide, hI0.code 1⟩
    · unfold S_P_parent B_P_parent_33
      rw [rc_at h1.up.1, b1_some, P_placeOf_eq (μ := m_up μ) h1.up h2' x, b1_some, b1_some, P_placeOf_eq (μ := m_up μ) h1.up h2' y, b1_some]
      by_cases hx : 0 ≤ x ∧ x < i32 N
      · rw [if_pos hx, if_neg (some_ne _)]
        by_cases hy : 0 ≤ y ∧ y < i32 N
        · rw [if_pos hy, if_neg (some_ne _), S_areSpan, b1_some, if_pos (bI_neg (fun q => hb ⟨hx, hy, q⟩))]
        · rw [if_neg hy, if_pos rfl]
      · rw [if_neg hx, if_pos rfl]
    · unfold R_M_parent
      rw [R_isPlace g1 g2, b1_some]
      by_cases hx : 0 ≤ x ∧ x < i32 N
      · rw [if_neg (by rw [bI_pos hx]; decide), R_isPlace g1 g2, b1_some]
        by_cases hy : 0 ≤ y ∧ y < i32 N
        · rw [if_neg (by rw [bI_pos hy]; decide), R_isSpan, b1_some, if_pos (bI_neg (fun q => hb ⟨hx, hy, q⟩))]
          rfl
        · rw [if_pos (bI_neg hy)]
          rfl
      · rw [if_pos (bI_neg hx)]
        rfl
  by_cases hx : 0 ≤ x ∧ x < i32 N
  case neg => exact hbad (fun q => hx q.1)
  by_cases hy : 0 ≤ y ∧ y < i32 N
  case neg => exact hbad (fun q => hy q.2.1)
  by_cases hs : (0 ≤ f ∧ f ≤ 9999) ∧ (0 ≤ t ∧ t ≤ 9999) ∧ f ≤ t
  case neg => exact hbad (fun q => hs q.2.2)
  obtain ⟨i, rfl, hi⟩ := id_of g2 hx
  obtain ⟨area, rfl, harea⟩ := id_of g2 hy
  have hft := hs.2.2
  obtain ⟨sh, sd, nm, lk, q1, q2, q3, q4⟩ := g4 i hi
  obtain ⟨l1, l2, li, l3, l4⟩ := q4.v g2
  have q4' := q4
  -- the reference
  have u30 : ∀ day, _ := fun day => h2'.ups h3 day
  have hq : ∀ z : Int32, ∀ day, R_M_isAbove (i32 i) (i32 area) day (rpI (rpI ρ 0 0) 0 z) = some (bI (belF (upD ρ day) (i32 i) 31 (some area) = true)) := by
    intro z day
    obtain ⟨v1, v2, v3, v4, v5, v6⟩ := IPs.ups (ρ := rpI (rpI ρ 0 0) 0 z) h2' h3 day
    have hU : upD (rpI (rpI ρ 0 0) 0 z) = upD ρ := upD_same rfl rfl rfl rfl
    rw [hU] at v4 v5
    exact R_above (ρ := rpI (rpI ρ 0 0) 0 z) (up := upD ρ day) (id := i32 i) (day := day) g2 v4 v5 31 0 (some area) fu (fun j hj => by cases hj; exact harea) (by omega) (by decide)
  have hr00 : rpI (rpI ρ 0 0) 0 0 = rpI ρ 0 0 := rpIx _ _ _ _
  have hq0 : ∀ day, R_M_isAbove (i32 i) (i32 area) day (rpI ρ 0 0) = some (bI (belF (upD ρ day) (i32 i) 31 (some area) = true)) := fun day => by
    have := hq 0 day
    rw [hr00] at this
    exact this
  have hreach : ∀ day, (bI (belF (upD ρ day) (i32 i) 31 (some area) = true) ≠ 0 ↔ ∃ m, itU (upD ρ day) m area = some i) := by
    intro day
    obtain ⟨v1, v2, v3, v4, v5, v6⟩ := u30 day
    rw [show (bI (belF (upD ρ day) (i32 i) 31 (some area) = true) ≠ 0 ↔ belF (upD ρ day) (i32 i) 31 (some area) = true) from ⟨fun h => Decidable.byContradiction (fun q => h (bI_neg q)), fun h => by rw [bI_pos h]; decide⟩, bel_iff g2 hi v5 31 area harea]
    constructor
    · rintro ⟨k, _, hk⟩; exact ⟨k, hk⟩
    · rintro ⟨k, hk⟩
      refine ⟨k, ?_, hk⟩
      rcases Nat.lt_or_ge k 31 with q | q
      · exact q
      · rw [itU_none (v6 area harea) (by omega)] at hk
        cases hk
  have hRa : R_M_parent (i32 i) (i32 area) f t ρ = RB_M_parent_45 fu (i32 i) (i32 area) f t (i32 0) (rpI ρ 0 0) := by
    unfold R_M_parent
    rw [R_isPlace g1 g2, b1_some, if_neg (by rw [bI_pos hx]; decide), R_isPlace g1 g2, b1_some, if_neg (by rw [bI_pos hy]; decide), R_isSpan, b1_some, if_neg (by rw [bI_pos hs]; decide)]
    unfold RB_M_parent_31
    rw [b0_eq, if_pos (show ri (rpI ρ 0 0) 0 ≤ 0 from by show (0 : Int32) ≤ 0; decide)]
    rfl
  obtain ⟨b1', R1, R2⟩ := R_p45 (ρ0 := rpI ρ 0 0) (i := i) (area := area) (n := nSp ρ i) (f := f) (t := t) (by omega) l1 rfl l2 (nSp ρ i) 0 fu false (by omega) (by show nSp ρ i < 4096; omega)
  have R1 : RB_M_parent_45 fu (i32 i) (i32 area) f t (i32 0) (rpI ρ 0 0) = _ := R1
  rw [R1] at hRa
  have hover : b1' = true ↔ ∃ j, j < nSp ρ i ∧ ra ρ 16 (4 * i + j) ≤ t ∧ f ≤ ra ρ 17 (4 * i + j) := by
    rw [R2]
    exact ⟨fun h => h.elim (fun q => by cases q) (fun ⟨j, _, h⟩ => ⟨j, h⟩), fun ⟨j, h⟩ => .inr ⟨j, Nat.zero_le _, h⟩⟩
  -- the class
  have hlink : ∀ ν : Mem, mF ν = mF μ → mE ν = mE μ → S_Pl_isLinkedWithin (some (pl i)) f t ν = some (bI (b1' = true)) := by
    intro ν hF hE
    have hp : mF ν (pl i) = some (.inr (7, PC7 (i32 i) (ra ρ 2 i) (ra ρ 3 i) sh sd nm lk)) := by rw [hF]; exact q1.1
    obtain ⟨ad, mc, a1, a2⟩ := l3.al
    have al : AL ν lk (nSp ρ i) li ad := by
      refine ⟨mc, by rw [hF]; exact a1, ?_⟩
      rw [show mD ν = mD μ from congrArg (·.1) hE, hF]
      exact a2
    rw [Pl_isLinkedWithin_eq hp al (ab := fun k => pl (ra ρ 15 (4 * i + k)).toNatClampNeg) (F := fun k => ra ρ 16 (4 * i + k)) (T := fun k => ra ρ 17 (4 * i + k)) (fun k hk => by
      have := (l4 k hk).1.1
      rw [← hF] at this
      exact this) f t]
    congr 1
    have : (anyF (fun k => ra ρ 16 (4 * i + k)) (fun k => ra ρ 17 (4 * i + k)) f t (nSp ρ i) 0 = true) ↔ b1' = true := by
      rw [any_iff, hover]
      exact ⟨fun ⟨j, _, h2, h3⟩ => ⟨j, by omega, h3⟩, fun ⟨j, h2, h3⟩ => ⟨j, by omega, by omega, h3⟩⟩
    by_cases hb : b1' = true
    · rw [bI_pos hb, bI_pos (this.mpr hb)]
    · rw [bI_neg hb, bI_neg (fun q => hb (this.mp q))]
  have hcls0 : ∀ ν : Mem, mF ν = mF μ → mE ν = mE μ → Is ro ν c 2 (PFc lPl aX aY nc rt aT nt lC aW hH eE rR an) → IPs ro ν ρ pl N lPl → S_P_parent (some c) (i32 i) (i32 area) f t ν = if b1' = true then some (.inl 2, ν) else b1 (S_P_comesTo 32 (some (pl area)) (i32 i) f t 0 ν) (fun x71 => if x71 = 0 then b1 (gR ν (some (pl i)) 7 6) (fun x79 => b1 (rc ν x79 0) (fun _ => b1 (S_Al_size x79 ν) (fun x82 => if x82 < 4 then b1 (gR ν (some (pl i)) 7 6) (fun x101 => b2 (nO ν 5 [.null, .int 0, .int 0]) (fun x104 m104 => b1 (rc m104 x104 5) (fun _ => b2 (S_Li_init x104 (some (pl area)) f t m104) (fun x113 m113 => b1 (rc m113 x101 0) (fun _ => b2 (S_Al_add x101 x104 m113) (fun x116 m116 => some (.inr (), m116))))))) else B_P_parent_89 ν))) else B_P_parent_89 ν) := by
    intro ν hF hE k1 k2
    have hp : mF ν (pl i) = some (.inr (7, PC7 (i32 i) (ra ρ 2 i) (ra ρ 3 i) sh sd nm lk)) := by rw [hF]; exact q1.1
    unfold S_P_parent
    rw [rc_at k1.1, b1_some, P_placeOf_eq k1 k2, b1_some, b1_some, P_placeOf_eq k1 k2, b1_some, if_pos hx, if_neg (some_ne _), if_pos hy, if_neg (some_ne _), S_areSpan, b1_some, if_neg (by rw [bI_pos hs]; decide), i32_nat (show i < 2 ^ 31 by omega), i32_nat (show area < 2 ^ 31 by omega), rc_at hp, b1_some, hlink ν hF hE, b1_some, bI_if]
  by_cases hb1 : b1' = true
  · refine .inr ⟨2, m_up μ, 2, rpI (rpI ρ 0 0) 0 2, ?_, by decide, ?_, rfl, by decide, (hI0.code 0).code 2⟩
    · rw [hcls0 (m_up μ) rfl rfl h1.up h2', if_pos hb1]
    · rw [hRa, if_pos hb1]
  rw [if_neg hb1] at hRa
  have hno : ∀ j, j < nSp ρ i → ¬ (ra ρ 16 (4 * i + j) ≤ t ∧ f ≤ ra ρ 17 (4 * i + j)) := fun j hj q => hb1 (hover.mpr ⟨j, hj, q⟩)
  -- comesTo
  have hcomes : ∀ ν : Mem, mF ν = mF μ → mE ν = mE μ → ∃ r : Int32, S_P_comesTo 32 (some (pl area)) (i32 i) f t 0 ν = some r ∧ (r = 0 ↔ ¬ ∃ day m, f ≤ day ∧ day ≤ t ∧ itU (upD ρ day) m area = some i) := by
    intro ν hF hE
    have hPt : ∀ j, j < N → ∃ lk li : Nat, True := fun j _ => ⟨0, 0, trivial⟩
    have hch : ∃ (LK : Nat → Nat) (LI : Nat → Nat → Nat), ∀ j, j < N → gR ν (some (pl j)) 7 6 = some (some (LK j)) ∧ AR ro ν (LK j) (100 + 10 * j + 6) (nSp ρ j) (LI j) ∧ ∀ k, k < nSp ρ j → mF ν (LI j k) = some (.inr (5, [.ref (pl (ra ρ 15 (4 * j + k)).toNatClampNeg), .int (ra ρ 16 (4 * j + k)), .int (ra ρ 17 (4 * j + k))])) := by
      have hone : ∀ j : Nat, ∃ w : Nat × (Nat → Nat), j < N → gR ν (some (pl j)) 7 6 = some (some w.1) ∧ AR ro ν w.1 (100 + 10 * j + 6) (nSp ρ j) w.2 ∧ ∀ k, k < nSp ρ j → mF ν (w.2 k) = some (.inr (5, [.ref (pl (ra ρ 15 (4 * j + k)).toNatClampNeg), .int (ra ρ 16 (4 * j + k)), .int (ra ρ 17 (4 * j + k))])) := by
        intro j
        by_cases hj : j < N
        · obtain ⟨sh', sd', nm', lk', p1, p2, p3, p4⟩ := g4 j hj
          obtain ⟨m1, m2, li', m3, m4⟩ := p4.v g2
          refine ⟨(lk', li'), fun _ => ⟨gR_at (by rw [hF]; exact p1.1) rfl, ?_, fun k hk => by rw [hF]; exact (m4 k hk).1.1⟩⟩
          obtain ⟨ad, mc, a1, a2⟩ := m3
          refine ⟨ad, mc, ⟨by rw [hF]; exact a1.1, a1.2⟩, ?_⟩
          rw [show mD ν = mD μ from congrArg (·.1) hE]
          rcases a2 with a2 | ⟨a2, cap, ff, a3, a4⟩
          · exact .inl a2
          · exact .inr ⟨a2, cap, ff, ⟨by rw [hF]; exact a3.1, a3.2⟩, a4⟩
        · exact ⟨(0, id), fun q => absurd q hj⟩
      obtain ⟨w, hw⟩ := Classical.axiomOfChoice hone
      exact ⟨fun j => (w j).1, fun j => (w j).2, hw⟩
    obtain ⟨LK, LI, hL⟩ := hch
    exact P_comes (μ := ν) (pl := pl) (U := upD ρ) (N := N) (t := i) (a0 := area) (S := nSp ρ) (lk := LK) (li := LI) (Fr := fun j k => ra ρ 16 (4 * j + k)) (To := fun j k => ra ρ 17 (4 * j + k)) (Pa := fun j k => (ra ρ 15 (4 * j + k)).toNatClampNeg) g2 hi (fun j hj day p => upD_iff h3 hj day p) (fun j k hj hk => by
        obtain ⟨sh', sd', nm', lk', p1, p2, p3, p4⟩ := g4 j hj
        obtain ⟨m1, m2, li', m3, m4⟩ := p4.v g2
        exact (m4 k hk).2.1) (fun j hj => by
        obtain ⟨sh', sd', nm', lk', p1, p2, p3, p4⟩ := g4 j hj
        exact (p4.v g2).1) (fun day => (u30 day).2.2.2.2.2 area harea) (fun j hj => by
        obtain ⟨sh', sd', nm', lk', p1, p2⟩ := g4 j hj
        exact gI_at (by rw [hF]; exact p1.1) rfl) (fun j hj => (hL j hj).1) (fun j hj => (hL j hj).2.1.rc) (fun j hj => (hL j hj).2.1.size) (fun j k hj hk => (hL j hj).2.1.get hk) (fun j k hj hk => (hL j hj).2.2 k hk) 32 area 0 f t harea hft (by omega) (fun day _ _ => rfl)
  have hRC3 : RB_M_parent_126 (i32 i) (i32 area) f t (rpI ρ 0 0) = some ((), rpI (rpI ρ 0 0) 0 3) := by
    unfold RB_M_parent_126 RB_M_parent_131
    rw [b0_eq, show (0 : Int32) = i32 0 from rfl]
    have := (R_p134 (ρ0 := rpI ρ 0 0) (i := i) (area := area) (f := f) (t := t) (S := nSp ρ) g2 rfl g1 (fun p hp => by
      obtain ⟨sh', sd', nm', lk', p1, p2, p3, p4⟩ := g4 p hp
      exact ⟨(p4.v g2).1, (p4.v g2).2.1⟩) hq0 (hq 3) N 0 fu (by omega) (by show N + 1 < 4096; omega)).1
    exact this
  have hR131 := (R_p134 (ρ0 := rpI ρ 0 0) (i := i) (area := area) (f := f) (t := t) (S := nSp ρ) g2 rfl g1 (fun p hp => by
      obtain ⟨sh', sd', nm', lk', p1, p2, p3, p4⟩ := g4 p hp
      exact ⟨(p4.v g2).1, (p4.v g2).2.1⟩) hq0 (hq 3) N 0 fu (by omega) (by show N + 1 < 4096; omega)).2
  obtain ⟨b2, R3, R4⟩ := hR131
  have hRfin : ((nSp ρ i = 4 ∨ ∃ day m, f ≤ day ∧ day ≤ t ∧ itU (upD ρ day) m area = some i) → R_M_parent (i32 i) (i32 area) f t ρ = some ((), rpI (rpI ρ 0 0) 0 3)) ∧ (¬ (nSp ρ i = 4 ∨ ∃ day m, f ≤ day ∧ day ≤ t ∧ itU (upD ρ day) m area = some i) → R_M_parent (i32 i) (i32 area) f t ρ = RB_M_parent_218 (i32 i) (i32 area) f t (rpI ρ 0 0)) := by
    have hiff : (∃ day m, f ≤ day ∧ day ≤ t ∧ itU (upD ρ day) m area = some i) ↔ (bI (belF (upD ρ f) (i32 i) 31 (some area) = true) ≠ 0 ∨ b2 = true) := by
      constructor
      · rintro ⟨day, m, d1, d2, d3⟩
        obtain ⟨d, e1, e2, e3, e4⟩ := reach_start (U := upD ρ) (N := N) (S := nSp ρ) (Fr := fun j k => ra ρ 16 (4 * j + k)) (To := fun j k => ra ρ 17 (4 * j + k)) (Pa := fun j k => (ra ρ 15 (4 * j + k)).toNatClampNeg) (fun j hj day p => upD_iff h3 hj day p) (fun day j hj => (u30 day).2.2.2.2.1 j hj) (from' := f) d1 m area harea d3
        have e5 := e4 d (Int32.le_refl _) e2
        rcases e3 with e3 | ⟨p, k, p1, p2, p3⟩
        · subst e3
          exact .inl ((hreach d).mpr ⟨m, e5⟩)
        · refine .inr (R4.mpr ⟨p, k, Nat.zero_le _, p1, p2, ?_, ?_, ?_⟩)
          · show f ≤ ra ρ 16 (4 * p + k); rw [← p3]; exact e1
          · show ra ρ 16 (4 * p + k) ≤ t; rw [← p3]; exact Int32.le_trans e2 d2
          · show bI (belF (upD ρ (ra ρ 16 (4 * p + k))) (i32 i) 31 (some area) = true) ≠ 0; rw [← p3]; exact (hreach d).mpr ⟨m, e5⟩
      · rintro (h | h)
        · obtain ⟨m, hm⟩ := (hreach f).mp h
          exact ⟨f, m, Int32.le_refl _, hft, hm⟩
        · obtain ⟨p, k, _, p1, p2, p3, p4, p5⟩ := R4.mp h
          obtain ⟨m, hm⟩ := (hreach _).mp p5
          exact ⟨_, m, p3, p4, hm⟩
    rw [hRa]
    by_cases h4 : nSp ρ i = 4
    · rw [if_pos (show i32 (nSp ρ i) = 4 from by rw [h4]; rfl), hRC3]
      exact ⟨fun _ => rfl, fun q => absurd (.inl h4) q⟩
    · rw [if_neg (show ¬ i32 (nSp ρ i) = 4 from fun q => h4 ((i32_inj (b := 4) (by omega) (by decide)).mp q)), hq0, b1_some]
      by_cases hqf : bI (belF (upD ρ f) (i32 i) 31 (some area) = true) = 0
      · rw [if_pos hqf]
        have h131 : RB_M_parent_131 (i32 i) (i32 area) f t (rpI ρ 0 0) = _ := R3
        rw [h131]
        by_cases hb2 : b2 = true
        · rw [if_pos hb2]
          exact ⟨fun _ => rfl, fun q => absurd (.inr (hiff.mpr (.inr hb2))) q⟩
        · rw [if_neg hb2]
          exact ⟨fun q => absurd q (fun q => q.elim h4 (fun q => (hiff.mp q).elim (fun q => q hqf) hb2)), fun _ => rfl⟩
      · rw [if_neg hqf, hRC3]
        exact ⟨fun _ => rfl, fun q => absurd (.inr (hiff.mpr (.inl hqf))) q⟩
  by_cases hfin : nSp ρ i = 4 ∨ ∃ day m, f ≤ day ∧ day ≤ t ∧ itU (upD ρ day) m area = some i
  · refine .inr ⟨1, m_up μ, 3, rpI (rpI ρ 0 0) 0 3, ?_, by decide, ?_, rfl, by decide, (hI0.code 0).code 3⟩
    · obtain ⟨r, r1, r2⟩ := hcomes (m_up μ) rfl rfl
      rw [hcls0 (m_up μ) rfl rfl h1.up h2', if_neg hb1, r1, b1_some]
      unfold B_P_parent_89
      by_cases hr : r = 0
      · have h4 : nSp ρ i = 4 := hfin.elim id (fun q => absurd q (r2.mp hr))
        rw [if_pos hr, gR_at q1.up.1 rfl, b1_some, AR.rc (μ := m_up μ) l3, b1_some, AR.size (μ := m_up μ) l3, b1_some, if_neg (show ¬ i32 (nSp ρ i) < (4 : Int32) from fun q => by have := (i32_lt (b := 4) (by omega) (by decide)).mp q; omega)]
      · rw [if_neg hr]
    · exact hRfin.1 hfin
  have hRfin := hRfin.2 hfin
  have hn4 : nSp ρ i < 4 := by
    rcases Nat.lt_or_ge (nSp ρ i) 4 with q | q
    · exact q
    · exact absurd (.inl (by omega)) hfin
  have hnoR : ¬ ∃ day m, f ≤ day ∧ day ≤ t ∧ itU (upD ρ day) m area = some i := fun q => hfin (.inr q)
  obtain ⟨r, r1, r2⟩ := hcomes μ rfl rfl
  have hr0 : r = 0 := r2.mpr hnoR
  -- the new link
  have f1 : Fr (mN μ) μ (m_push μ (.inr (5, [.null, .int 0, .int 0]))) := (Fr.rf h15).push (Nat.le_refl _) _
  have c1 := push_at μ (.inr (5, [.null, .int 0, .int 0]))
  have s2 := Li_init_eq (ab := pl area) c1 h15.1.2 f t
  have f2 := f1.set (Nat.le_refl _) c1 (.inr (5, [.ref (pl area), .int f, .int t]))
  have c2 : mF (m_set (m_push μ (.inr (5, [.null, .int 0, .int 0]))) (mN μ) (.inr (5, [.ref (pl area), .int f, .int t]))) (mN μ) = some (.inr (5, [.ref (pl area), .int f, .int t])) := set_at _ _ _
  generalize m_set (m_push μ (.inr (5, [.null, .int 0, .int 0]))) (mN μ) (.inr (5, [.ref (pl area), .int f, .int t])) = μ2 at *
  have e1 : Ext (fun q => q = 100 + 10 * i + 6 ∨ q = 100 + 10 * i + 7) ro μ (roN ro (mN μ) (fun _ => 0)) μ2 := f2.ext h15 ro _
  have e0 : Ext (fun q => False) ro μ (roN ro (mN μ) (fun _ => 0)) μ2 := f2.ext h15 ro _
  have iA : Is (roN ro (mN μ) (fun _ => 0)) μ2 (mN μ) 0 (.inr (5, [.ref (pl area), .int f, .int t])) := ⟨c2, roN_new (Nat.le_refl _)⟩
  generalize roN ro (mN μ) (fun _ => 0) = ro1 at *
  have w1 := e1.wf
  have lo1 := e1.lo h15 h16
  have l3a := l3.ext e0 (fun q => q) (fun q => q)
  obtain ⟨ro4, μ4, s4, k4', l3b⟩ := Al_add_eq w1 lo1 l3a (by omega) c2 (by decide) (fun j hj => ⟨5, _, (Is.ext (l4 j hj).1 e0 (fun q => q)).1, by decide⟩)
  have k4 : Ext (fun q => q = 100 + 10 * i + 6 ∨ q = 100 + 10 * i + 7) ro1 μ2 ro4 μ4 := k4'.mono (fun r hr => by omega)
  have e := e1.tr k4
  have d1s : ra ρ 14 i + 1 = i32 (nSp ρ i + 1) := by rw [l2, i32_succ]
  have hS : S_P_parent (some c) (i32 i) (i32 area) f t μ = some (.inr (), μ4) := by
    rw [hcls0 μ rfl rfl h1 h2', if_neg hb1, r1, b1_some, if_pos hr0, gR_at q1.1 rfl, b1_some, l3.rc, b1_some, l3.size, b1_some, if_pos (show i32 (nSp ρ i) < (4 : Int32) from (i32_lt (b := 4) (by omega) (by decide)).mpr hn4), b1_some, nO_eq, b2_some, rc_at (push_at _ _), b1_some, s2, b2_some, l3a.rc, b1_some, s4, b2_some]
  have hRf : R_M_parent (i32 i) (i32 area) f t ρ = some ((), rset (rset (rset (rset (rpI ρ 0 0) 15 (upd (ra ρ 15) (4 * i + nSp ρ i) (i32 area))) 16 (upd (ra ρ 16) (4 * i + nSp ρ i) f)) 17 (upd (ra ρ 17) (4 * i + nSp ρ i) t)) 14 (upd (ra ρ 14) i (ra ρ 14 i + 1))) := by
    rw [hRfin]
    unfold RB_M_parent_218
    rw [if_pos (show ri (rpI ρ 0 0) 0 ≤ 0 from by show (0 : Int32) ≤ 0; decide), rgI_at (by omega) (by decide), show ra (rpI ρ 0 0) 14 i = i32 (nSp ρ i) from l2, b1_some, b0_eq, i32_4, rsI_at (by omega) (by decide), b1_some, rsI_at (by omega) (by decide), b1_some, rsI_at (by omega) (by decide), b1_some, rgI_at (by omega) (by decide), b1_some, rsI_at (by omega) (by decide), b1_some]
    rfl
  have E : ∀ j, j < 14 ∨ 17 < j → ra (rset (rset (rset (rset (rpI ρ 0 0) 15 (upd (ra ρ 15) (4 * i + nSp ρ i) (i32 area))) 16 (upd (ra ρ 16) (4 * i + nSp ρ i) f)) 17 (upd (ra ρ 17) (4 * i + nSp ρ i) t)) 14 (upd (ra ρ 14) i (ra ρ 14 i + 1))) j = ra ρ j := by
    intro j hj
    show va_up (va_up (va_up (va_up (ra ρ) 15 _) 16 _) 17 _) 14 _ j = _
    rw [va_up_ne _ _ (by omega), va_up_ne _ _ (by omega), va_up_ne _ _ (by omega), va_up_ne _ _ (by omega)]
  have E14 : ra (rset (rset (rset (rset (rpI ρ 0 0) 15 (upd (ra ρ 15) (4 * i + nSp ρ i) (i32 area))) 16 (upd (ra ρ 16) (4 * i + nSp ρ i) f)) 17 (upd (ra ρ 17) (4 * i + nSp ρ i) t)) 14 (upd (ra ρ 14) i (ra ρ 14 i + 1))) 14 = upd (ra ρ 14) i (ra ρ 14 i + 1) := rfl
  have E15 : ra (rset (rset (rset (rset (rpI ρ 0 0) 15 (upd (ra ρ 15) (4 * i + nSp ρ i) (i32 area))) 16 (upd (ra ρ 16) (4 * i + nSp ρ i) f)) 17 (upd (ra ρ 17) (4 * i + nSp ρ i) t)) 14 (upd (ra ρ 14) i (ra ρ 14 i + 1))) 15 = upd (ra ρ 15) (4 * i + nSp ρ i) (i32 area) := rfl
  have E16 : ra (rset (rset (rset (rset (rpI ρ 0 0) 15 (upd (ra ρ 15) (4 * i + nSp ρ i) (i32 area))) 16 (upd (ra ρ 16) (4 * i + nSp ρ i) f)) 17 (upd (ra ρ 17) (4 * i + nSp ρ i) t)) 14 (upd (ra ρ 14) i (ra ρ 14 i + 1))) 16 = upd (ra ρ 16) (4 * i + nSp ρ i) f := rfl
  have E17 : ra (rset (rset (rset (rset (rpI ρ 0 0) 15 (upd (ra ρ 15) (4 * i + nSp ρ i) (i32 area))) 16 (upd (ra ρ 16) (4 * i + nSp ρ i) f)) 17 (upd (ra ρ 17) (4 * i + nSp ρ i) t)) 14 (upd (ra ρ 14) i (ra ρ 14 i + 1))) 17 = upd (ra ρ 17) (4 * i + nSp ρ i) t := rfl
  have Ei : ∀ j, j ≠ 0 → ri (rset (rset (rset (rset (rpI ρ 0 0) 15 (upd (ra ρ 15) (4 * i + nSp ρ i) (i32 area))) 16 (upd (ra ρ 16) (4 * i + nSp ρ i) f)) 17 (upd (ra ρ 17) (4 * i + nSp ρ i) t)) 14 (upd (ra ρ 14) i (ra ρ 14 i + 1))) j = ri ρ j := fun j hj => va_up_ne _ _ hj
  have Ei0 : ri (rset (rset (rset (rset (rpI ρ 0 0) 15 (upd (ra ρ 15) (4 * i + nSp ρ i) (i32 area))) 16 (upd (ra ρ 16) (4 * i + nSp ρ i) f)) 17 (upd (ra ρ 17) (4 * i + nSp ρ i) t)) 14 (upd (ra ρ 14) i (ra ρ 14 i + 1))) 0 = 0 := rfl
  generalize rset (rset (rset (rset (rpI ρ 0 0) 15 (upd (ra ρ 15) (4 * i + nSp ρ i) (i32 area))) 16 (upd (ra ρ 16) (4 * i + nSp ρ i) f)) 17 (upd (ra ρ 17) (4 * i + nSp ρ i) t)) 14 (upd (ra ρ 14) i (ra ρ 14 i + 1)) = ρ9 at *
  have far : ∀ q, q ≠ 4 * i + nSp ρ i → ra ρ9 15 q = ra ρ 15 q ∧ ra ρ9 16 q = ra ρ 16 q ∧ ra ρ9 17 q = ra ρ 17 q := fun q hq => by
    rw [E15, E16, E17]
    exact ⟨upd_ne _ _ hq, upd_ne _ _ hq, upd_ne _ _ hq⟩
  have hnS : nSp ρ9 i = nSp ρ i + 1 := by
    have : ra ρ9 14 i = i32 (nSp ρ i + 1) := by rw [E14, upd_at, d1s]
    exact i32_back this (by omega)
  have hnS' : ∀ j, j ≠ i → nSp ρ9 j = nSp ρ j := fun j hj => by unfold nSp; rw [E14, upd_ne _ _ hj]
  have hn4j : ∀ j, j < N → nSp ρ j ≤ 4 := fun j hj => by
    obtain ⟨sh', sd', nm', lk', p1, p2, p3, p4⟩ := g4 j hj
    exact (p4.v g2).1
  have hidx : ∀ j k, j ≠ i → k < nSp ρ j → 4 * j + k ≠ 4 * i + nSp ρ i := fun j k hji hk => by
    by_cases hjN : j < N
    · have := hn4j j hjN; omega
    · omega
  have hupe : ∀ day j, j ≠ i → upD ρ9 day j = upD ρ day j := fun day j hji => upD_eq (by rw [E14, upd_ne _ _ hji]) (fun k hk => far _ (hidx j k hji hk)) day
  have hdisi : ∀ j k, j < nSp ρ i + 1 → k < nSp ρ i + 1 → ra ρ9 16 (4 * i + j) ≤ ra ρ9 17 (4 * i + k) → ra ρ9 16 (4 * i + k) ≤ ra ρ9 17 (4 * i + j) → j = k := by
    intro j k hj hk c1 c2
    by_cases hjn : j = nSp ρ i
    · by_cases hkn : k = nSp ρ i
      · omega
      · exfalso
        rw [hjn, E16, E17, upd_at, upd_ne _ _ (by omega)] at c1
        rw [hjn, E16, E17, upd_at, upd_ne _ _ (by omega)] at c2
        exact hno k (by omega) ⟨c2, c1⟩
    · by_cases hkn : k = nSp ρ i
      · exfalso
        rw [hkn, E16, E17, upd_at, upd_ne _ _ (by omega)] at c1
        rw [hkn, E16, E17, upd_at, upd_ne _ _ (by omega)] at c2
        exact hno j (by omega) ⟨c1, c2⟩
      · rw [(far (4 * i + j) (by omega)).2.1, (far (4 * i + k) (by omega)).2.2] at c1
        rw [(far (4 * i + k) (by omega)).2.1, (far (4 * i + j) (by omega)).2.2] at c2
        exact h3.2.1 i hi j k (by omega) (by omega) c1 c2
  have hA9 : IA ρ9 N := by
    obtain ⟨z1, z2, z3, z4⟩ := h3
    refine ⟨fun j hj hj2 => ?_, fun j hj k l hk hl => ?_, fun j hj k hk => ?_, fun day x m hx => ?_⟩
    · rw [E 4 (by omega), E 9 (by omega), E14, upd_ne _ _ (by omega)]
      exact z1 j hj hj2
    · by_cases hji : j = i
      · subst hji
        rw [hnS] at hk hl
        exact hdisi k l hk hl
      · rw [hnS' j hji] at hk hl
        rw [(far _ (hidx j k hji hk)).2.1, (far _ (hidx j l hji hl)).2.2, (far _ (hidx j l hji hl)).2.1, (far _ (hidx j k hji hk)).2.2]
        exact z2 j hj k l hk hl
    · by_cases hji : j = i
      · subst hji
        rw [hnS] at hk
        by_cases hkn : k = nSp ρ j
        · rw [hkn, E16, E17, upd_at, upd_at]
          exact hft
        · rw [(far _ (by omega)).2.1, (far _ (by omega)).2.2]
          exact z3 j hj k (by omega)
      · rw [hnS' j hji] at hk
        rw [(far _ (hidx j k hji hk)).2.1, (far _ (hidx j k hji hk)).2.2]
        exact z3 j hj k hk
    · by_cases hday : f ≤ day ∧ day ≤ t
      · refine no_circle (up := upD ρ day) (up' := upD ρ9 day) (i := i) (area := area) ?_ (fun j hji => hupe day j hji) (fun m q => hnoR ⟨day, m, hday.1, hday.2, q⟩) (fun x m hx => z4 day x m hx) x m hx
        rw [upG_D, hnS]
        have := upG_at (P := fun k => ra ρ9 15 (4 * i + k)) (F := fun k => ra ρ9 16 (4 * i + k)) (T := fun k => ra ρ9 17 (4 * i + k)) hdisi day (j := nSp ρ i) (by omega) (by show ra ρ9 16 (4 * i + nSp ρ i) ≤ day; rw [E16, upd_at]; exact hday.1) (by show day ≤ ra ρ9 17 (4 * i + nSp ρ i); rw [E17, upd_at]; exact hday.2)
        rw [this]
        congr 1
        have h15v : ra ρ9 15 (4 * i + nSp ρ i) = i32 area := by rw [E15, upd_at]
        exact i32_back h15v (by omega)
      · have hall : upD ρ9 day = upD ρ day := by
          funext j
          by_cases hji : j = i
          · subst hji
            rw [upG_D, upG_D, hnS, upG_out day (by
              show ¬ (ra ρ9 16 (4 * j + nSp ρ j) ≤ day ∧ day ≤ ra ρ9 17 (4 * j + nSp ρ j))
              rw [E16, E17, upd_at, upd_at]
              exact hday)]
            exact upG_eq (fun k hk => far _ (by omega)) day
          · exact hupe day j hji
        rw [hall]
        exact z4 day x m hx
  refine .inl ⟨μ4, ρ9, hS, ov_keep hov h14 e (by omega), hRf, Ei0, ⟨ro4, N, pl, lPl, aX, aY, nc, rt, aT, nt, lC, aW, hH, eE, rR, an, h1.ext e (by omega), ⟨(Ei 1 (by omega)).trans g1, g2, g3.ext e (by omega) (by omega), fun j hj => ?_⟩, hA9, (h4.ext e (by omega) (by omega)).same (Ei _ (by omega)) (E _ (by omega)) (E _ (by omega)), (h5.ext e (by omega)).same (E _ (by omega)) (E _ (by omega)) (E _ (by omega)), (h6.ext e (by omega)).same (Ei _ (by omega)) (E _ (by omega)), (h7.ext e (by omega) (by omega) (by omega)).same (E _ (by omega)) (E _ (by omega)) (E _ (by omega)) (E _ (by omega)) (E _ (by omega)) (E _ (by omega)) (E _ (by omega)), (h8.ext e (fun q hq => by omega)).same (E _ (by omega)) (E _ (by omega)) (E _ (by omega)) (E _ (by omega)) (E _ (by omega)) (E _ (by omega)) (E _ (by omega)) (E _ (by omega)) (E _ (by omega)) (E _ (by omega)) (E _ (by omega)) (E _ (by omega)) (E _ (by omega)), (h9.ext e (by omega) (by omega) (by omega)).same (Ei _ (by omega)) (E _ (by omega)), h10.ext e (by omega) (fun i _ => by omega), h11.ext e (by omega), h12.ext e (by omega), h13.ext e (by omega), h14.ext e, e.wf, e.lo h15 h16⟩⟩
  by_cases hji : j = i
  · subst hji
    refine ⟨sh, sd, nm, lk, ?_, (q2.ext e (by omega) (fun q _ _ => by omega)).same (E _ (by omega)) (E _ (by omega)) (E _ (by omega)) (E _ (by omega)) (E _ (by omega)), (q3.ext e (by omega) (fun q _ _ => by omega)).same (E _ (by omega)) (E _ (by omega)) (E _ (by omega)) (E _ (by omega)) (E _ (by omega)), ⟨nSp ρ j + 1, (fun k => if k = nSp ρ j then mN μ else li k), by rw [E14, upd_at, d1s], hn4, l3b, fun k hk => ?_⟩⟩
    · rw [E 2 (by omega), E 3 (by omega)]
      exact q1.ext e (by omega)
    · by_cases hkn : k = nSp ρ j
      · subst hkn
        refine ⟨area, ?_, by rw [E15, upd_at], harea⟩
        show LK0 ro4 μ4 (if nSp ρ j = nSp ρ j then mN μ else li (nSp ρ j)) _ _ _
        rw [if_pos rfl, E16, E17, upd_at, upd_at]
        exact iA.ext k4' (by omega)
      · obtain ⟨m1, m2, m3⟩ := l4 k (by omega)
        refine ⟨(ra ρ 15 (4 * j + k)).toNatClampNeg, ?_, by rw [(far (4 * j + k) (by omega)).1]; exact m3, m2⟩
        show LK0 ro4 μ4 (if k = nSp ρ j then mN μ else li k) _ _ _
        rw [if_neg hkn, (far (4 * j + k) (by omega)).2.1, (far (4 * j + k) (by omega)).2.2]
        exact Is.ext m1 e (by omega)
  · obtain ⟨sh', sd', nm', lk', p1, p2, p3, p4⟩ := (g4 j hj).ext e (by omega) (fun q _ => by omega)
    refine ⟨sh', sd', nm', lk', ?_, p2.same (E _ (by omega)) (E _ (by omega)) (E _ (by omega)) (E _ (by omega)) (E _ (by omega)), p3.same (E _ (by omega)) (E _ (by omega)) (E _ (by omega)) (E _ (by omega)) (E _ (by omega)), p4.rho (Nat.le_refl _) (fun _ _ => rfl) (by rw [E14, upd_ne _ _ hji]) (fun k hk => far _ (by omega))⟩
    rw [E 2 (by omega), E 3 (by omega)]
    exact p1
