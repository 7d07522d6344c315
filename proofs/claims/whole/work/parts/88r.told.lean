/-! told -/
def frR (ρ ρ' : RS) : Prop := (ri ρ' 1 = ri ρ 1 ∧ ri ρ' 18 = ri ρ 18 ∧ ri ρ' 21 = ri ρ 21) ∧ ∀ j, j < 35 → ra ρ' j = ra ρ j
theorem IPs.fr {ro : Nat → Nat} {μ : Mem} {ρ ρ' : RS} {pl : Nat → Nat} {N l : Nat} (h : IPs ro μ ρ pl N l) (e : frR ρ ρ') : IPs ro μ ρ' pl N l := h.same e.1.1 (e.2 2 (by decide)) (e.2 3 (by decide)) (e.2 4 (by decide)) (e.2 5 (by decide)) (e.2 6 (by decide)) (e.2 7 (by decide)) (e.2 8 (by decide)) (e.2 9 (by decide)) (e.2 10 (by decide)) (e.2 11 (by decide)) (e.2 12 (by decide)) (e.2 13 (by decide)) (e.2 14 (by decide)) (e.2 15 (by decide)) (e.2 16 (by decide)) (e.2 17 (by decide))
theorem IA.fr {ρ ρ' : RS} {N : Nat} (h : IA ρ N) (e : frR ρ ρ') : IA ρ' N := h.same (fun i _ => congrFun (e.2 4 (by decide)) i) (fun i _ => congrFun (e.2 9 (by decide)) i) (e.2 14 (by decide)) (e.2 15 (by decide)) (e.2 16 (by decide)) (e.2 17 (by decide))
theorem IR.fr {ro : Nat → Nat} {μ : Mem} {ρ ρ' : RS} {s a : Nat} (h : IR ro μ ρ s a) (e : frR ρ ρ') : IR ro μ ρ' s a := h.same (e.2 30 (by decide)) (e.2 31 (by decide)) (e.2 32 (by decide))
theorem IC.fr {ro : Nat → Nat} {μ : Mem} {ρ ρ' : RS} {N s l r : Nat} (h : IC ro μ ρ N s l r) (e : frR ρ ρ') : IC ro μ ρ' N s l r := h.same (e.2 23 (by decide)) (e.2 24 (by decide)) (e.2 25 (by decide)) (e.2 26 (by decide)) (e.2 27 (by decide)) (e.2 28 (by decide)) (e.2 29 (by decide))
theorem IK.fr {ro : Nat → Nat} {μ : Mem} {ρ ρ' : RS} {aX aY n : Nat} (h : IK ro μ ρ aX aY n) (e : frR ρ ρ') : IK ro μ ρ' aX aY n := h.same e.1.2.1 (e.2 19 (by decide)) (e.2 20 (by decide))
theorem IT.fr {ro : Nat → Nat} {μ : Mem} {ρ ρ' : RS} {aT n : Nat} (h : IT ro μ ρ aT n) (e : frR ρ ρ') : IT ro μ ρ' aT n := h.same e.1.2.2 (e.2 22 (by decide))
theorem IW1.fr {ro : Nat → Nat} {μ : Mem} {ρ ρ' : RS} {N w : Nat} {o : Option Nat} (h : IW1 ro μ ρ N w o) (e : frR ρ ρ') (e35 : ra ρ' 35 (w + 1) = ra ρ 35 (w + 1)) : IW1 ro μ ρ' N w o :=
  h.rho (Nat.le_refl _) (congrFun (e.2 34 (by decide)) _) (congrFun (e.2 33 (by decide)) _) e35 (congrFun (e.2 23 (by decide)) _) (fun k _ => ⟨congrFun (e.2 24 (by decide)) _, congrFun (e.2 25 (by decide)) _, congrFun (e.2 26 (by decide)) _, congrFun (e.2 27 (by decide)) _, congrFun (e.2 28 (by decide)) _, fun j _ => congrFun (e.2 29 (by decide)) _⟩) (congrFun (e.2 30 (by decide)) _) (fun k _ => ⟨congrFun (e.2 31 (by decide)) _, congrFun (e.2 32 (by decide)) _⟩)
theorem IW.fr {ro : Nat → Nat} {μ : Mem} {ρ ρ' : RS} {N a : Nat} (h : IW ro μ ρ N a) (e : frR ρ ρ') (e35 : ra ρ' 35 = ra ρ 35) : IW ro μ ρ' N a := by
  obtain ⟨f, h1, h2⟩ := h
  exact ⟨f, h1, fun w hw => (h2 w hw).fr e (congrFun e35 _)⟩
theorem scR.fr {ρ ρ' : RS} (e : scR ρ ρ') : frR ρ ρ' := ⟨⟨e.i 1, e.i 18, e.i 21⟩, fun j hj => e.2.1 j (by omega) (by omega)⟩
theorem watch_get {ro : Nat → Nat} {μ : Mem} {ρ : RS} {N c lPl aX aY nc rt aT nt lC aW hH eE rR an : Nat} (x : Int32) (h1 : Is ro μ c 2 (PFc lPl aX aY nc rt aT nt lC aW hH eE rR an)) (h8 : IW ro μ ρ N aW) : (S_P_watchOf (some c) x (m_up μ) = some none ∧ R_M_isWatch x ρ = some (0, rpI ρ 0 1)) ∨ ∃ (w : Nat) (f : Nat → Option Nat) (a l t : Nat), w < 4 ∧ x = i32 w ∧ S_P_watchOf (some c) x μ = some (some a) ∧ Is ro μ aW 10 (.inl (5, 4, .inr (.inr (.inr (.inr f))))) ∧ f w = some a ∧ (∀ w, w < 4 → IW1 ro μ ρ N w (f w)) ∧ ra ρ 34 (w + 1) = 1 ∧ Is ro μ a (40 + w) (.inr (9, [.ref l, .ref t, .int (ra ρ 33 (w + 1)), .int (ra ρ 35 (w + 1))])) ∧ IC ro μ ρ N (w + 1) l (50 + 2 * w) ∧ IR ro μ ρ (w + 1) t ∧ R_M_isWatch x ρ = some (1, rpI ρ 0 0) := by
  obtain ⟨f, w1, w2⟩ := h8
  have r38 : RB_M_isWatch_38 ρ = some (0, rpI ρ 0 1) := rfl
  have r39 : RB_M_isWatch_39 0 ρ = some (1, rpI ρ 0 0) := rfl
  by_cases hx : 0 ≤ x ∧ x ≤ 3
  · obtain ⟨w, rfl, hw⟩ := i32_pos (i32_nlt.mpr hx.1)
    have hw3 : w ≤ 3 := (i32_le (b := 3) hw (by decide)).mp hx.2
    have hn4 : ¬ (4 : Int32) ≤ i32 w := fun q => by have := (i32_le (a := 4) (by decide) hw).mp q; omega
    have hR : R_M_isWatch (i32 w) ρ = if ra ρ 34 (w + 1) = 0 then RB_M_isWatch_38 ρ else RB_M_isWatch_39 0 ρ := by
      unfold R_M_isWatch RB_M_isWatch_30
      rw [R_in, b1_some, bI_pos hx, if_neg (by decide), b1_some, if_neg (by decide), i32_succ, rgI_at (by omega) (by decide), b1_some]
    rcases w2 w (by omega) with ⟨g1, g2⟩ | ⟨g1, a, l, t, g2, g3, g4, g5⟩
    · refine .inl ⟨?_, by rw [hR, if_pos g1, r38]⟩
      unfold S_P_watchOf
      rw [if_neg (i32_nn hw), if_neg hn4, gR_at h1.up.1 (k := 8) rfl, b1_some, aR_at w1.up.1 (by omega) (by decide), b1_some, g2]
      rfl
    · refine .inr ⟨w, f, a, l, t, by omega, rfl, ?_, w1, g2, w2, g1, g3, g4, g5, by rw [hR, if_neg (by rw [g1]; decide), r39]⟩
      unfold S_P_watchOf
      rw [if_neg (i32_nn hw), if_neg hn4, gR_at h1.1 (k := 8) rfl, b1_some, aR_at w1.1 (by omega) (by decide), b1_some, g2]
      rfl
  · refine .inl ⟨?_, ?_⟩
    · unfold S_P_watchOf
      by_cases q1 : x < 0
      · rw [if_pos q1]
        rfl
      · have q2 : (4 : Int32) ≤ x := by
          rw [Int32.le_iff_toInt_le]
          rw [i32_nlt, Int32.le_iff_toInt_le] at q1
          have q3 : ¬ x ≤ 3 := fun z => hx ⟨Int32.le_iff_toInt_le.mpr q1, z⟩
          rw [Int32.le_iff_toInt_le] at q3
          have e3 : (3 : Int32).toInt = 3 := rfl
          have e4 : (4 : Int32).toInt = 4 := rfl
          omega
        rw [if_neg q1, if_pos q2]
        rfl
    · unfold R_M_isWatch
      rw [R_in, b1_some, if_pos (bI_neg hx), r38]
theorem told_loop {ro : Nat → Nat} {μ0 : Mem} {ρ0 : RS} {pl : Nat → Nat} {N c lPl aX aY nc rt0 aT nt lC aW hH eE rR an a l t w : Nat} {day told : Int32} (w0 : WF μ0) (lo0 : LO μ0) (h1 : Is ro μ0 c 2 (PFc lPl aX aY nc rt0 aT nt lC aW hH eE rR an)) (h2 : IPs ro μ0 ρ0 pl N lPl) (hA : IA ρ0 N) (hw4 : w < 4) (ha : Is ro μ0 a (40 + w) (.inr (9, [.ref l, .ref t, .int day, .int told]))) (hday : ra ρ0 33 (w + 1) = day) (hC : IC ro μ0 ρ0 N (w + 1) l (50 + 2 * w)) (hr : IR ro μ0 ρ0 (w + 1) t) (M : Nat) : ∀ (k m fuel fuel' : Nat) (μ : Mem) (ρ : RS), Ext WMt ro μ0 ro μ → scR ρ0 ρ → IE ro μ eE → IS ro μ rR → m < 2 ^ k → k + M = N → M < fuel → M < fuel' → ∃ (μ' : Mem) (ρ' : RS) (m' : Nat), B_P_told_26 fuel (some c) (some a) (i32 m) (i32 k) μ = b1 (pV μ' (some a) 9 3 (vI (i32 m'))) (fun m84 => b1 (S_In_bitCount (i32 m') m84) (fun x88 => some (.inr x88, m84))) ∧ RB_M_told_17 fuel' (i32 w) (i32 (pc 32 m)) (i32 m) (i32 k) ρ = b1 (rsI ρ' 35 5 (i32 w + 1) (i32 m')) (fun ρ73 => some (i32 (pc 32 m'), ρ73)) ∧ m' < 2 ^ 30 ∧ Ext WMt ro μ0 ro μ' ∧ IE ro μ' eE ∧ IS ro μ' rR ∧ scR ρ0 ρ' := by
  have hN := h2.2.1
  have w20 : ∀ q, (q < 15 ∨ (15 < q ∧ q < 20) ∨ 31 ≤ q) → ¬ WMt q := fun q h z => by unfold WMt at z; omega
  induction M with
  | zero =>
    intro k m fuel fuel' μ ρ e sc hE hS hm hk hf hf'
    cases fuel with
    | zero => omega
    | succ fuel =>
      cases fuel' with
      | zero => omega
      | succ fuel' =>
        have h11 := h1.ext e (w20 _ (by omega))
        have h21 := h2.ext e (fun z hz => w20 z (by omega))
        have hkN : k = N := by omega
        refine ⟨μ, ρ, m, ?_, ?_, Nat.lt_of_lt_of_le hm (Nat.pow_le_pow_right (by decide) (by omega)), e, hE, hS, sc⟩
        · show b1 (gR μ (some c) 11 0) (fun x29 => b1 (rc μ x29 0) (fun _ => b1 (S_Al_size x29 μ) (fun x32 => if x32 ≤ i32 k then _ else _))) = _
          rw [gR_at h11.1 (k := 0) rfl, b1_some, h21.2.2.1.rc, b1_some, h21.2.2.1.size, b1_some, if_pos ((i32_le (by omega) (by omega)).mpr (by omega))]
        · show (if ri ρ 1 ≤ i32 k then _ else _) = _
          rw [sc.i 1, h2.1, if_pos ((i32_le (by omega) (by omega)).mpr (by omega))]
  | succ M ih =>
    intro k m fuel fuel' μ ρ e sc hE hS hm hk hf hf'
    cases fuel with
    | zero => omega
    | succ fuel =>
      cases fuel' with
      | zero => omega
      | succ fuel' =>
        have hkN : k < N := by omega
        have h11 := h1.ext e (w20 _ (by omega))
        have h21 := h2.ext e (fun z hz => w20 z (by omega))
        have ha1 := ha.ext e (w20 _ (by omega))
        have hp := h21.2.2.2 k hkN
        obtain ⟨sh, sd, nm, lk, p1, p2⟩ := hp
        obtain ⟨μ1, ρ1, r, f1, f2, f3, f4, f5, f6, f7, f8⟩ := meets_eq (i := k) day e.wf (e.lo w0 lo0) h11 (h21.sc sc) (hA.sc sc) hE hS ((hr.ext e (w20 _ (by omega))).sc sc) ((hC.ext e (w20 _ (by omega)) (w20 _ (by omega)) (w20 _ (by omega))).sc sc) (w20 _ (by omega)) (w20 _ (by omega)) (by omega) hkN
        have expC : B_P_told_26 (fuel + 1) (some c) (some a) (i32 m) (i32 k) μ = if r = 0 then B_P_told_26 fuel (some c) (some a) (i32 m) (i32 (k + 1)) μ1 else B_P_told_26 fuel (some c) (some a) (i32 (m + 2 ^ k)) (i32 (k + 1)) μ1 := by
          rw [← or_bit hm (by omega)]
          show b1 (gR μ (some c) 11 0) (fun x29 => b1 (rc μ x29 0) (fun _ => b1 (S_Al_size x29 μ) (fun x32 => if x32 ≤ i32 k then _ else b1 (gR μ (some c) 11 0) (fun x40 => b1 (rc μ x40 0) (fun _ => b1 (S_Al_get x40 (i32 k) μ) (fun x45 => b1 (cK μ x45 7) (fun _ => b1 (gR μ (some a) 9 0) (fun x52 => b1 (gR μ (some a) 9 1) (fun x56 => b1 (gI μ (some a) 9 2) (fun x60 => b1 (rc μ (some c) 11) (fun _ => b2 (S_P_meets (some c) x45 x52 x56 x60 μ) (fun x63 m63 => if x63 = 0 then B_P_told_26 fuel (some c) (some a) (i32 m) (i32 k + 1) m63 else B_P_told_26 fuel (some c) (some a) (i32 m ||| (1 <<< (i32 k &&& 31))) (i32 k + 1) m63)))))))))))) = _
          rw [gR_at h11.1 (k := 0) rfl, b1_some, h21.2.2.1.rc, b1_some, h21.2.2.1.size, b1_some, if_neg (fun z => by have := (i32_le (by omega) (by omega)).mp z; omega), b1_some, h21.2.2.1.rc, b1_some, h21.2.2.1.get hkN, b1_some, cK_at p1.1, b1_some, gR_at ha1.1 (k := 0) rfl, b1_some, gR_at ha1.1 (k := 1) rfl, b1_some, gI_at ha1.1 (k := 2) rfl, b1_some, rc_at h11.1, b1_some, f1, b2_some, i32_succ]
        have expR : RB_M_told_17 (fuel' + 1) (i32 w) (i32 (pc 32 m)) (i32 m) (i32 k) ρ = if r = 0 then RB_M_told_17 fuel' (i32 w) (i32 (pc 32 m)) (i32 m) (i32 (k + 1)) ρ1 else RB_M_told_17 fuel' (i32 w) (i32 (pc 32 (m + 2 ^ k))) (i32 (m + 2 ^ k)) (i32 (k + 1)) ρ1 := by
          rw [pc_add 32 k m (by omega) hm, ← or_bit hm (by omega)]
          show (if ri ρ 1 ≤ i32 k then _ else b1 (rgI ρ 33 5 (i32 w + 1)) (fun x36 => c2 (R_M_meets (i32 k) x36 (i32 w + 1) ρ) (fun x40 ρ40 => if x40 = 0 then RB_M_told_17 fuel' (i32 w) (i32 (pc 32 m)) (i32 m) (i32 k + 1) ρ40 else RB_M_told_17 fuel' (i32 w) (i32 (pc 32 m) + 1) (i32 m ||| (1 <<< (i32 k &&& 31))) (i32 k + 1) ρ40))) = _
          rw [sc.i 1, h2.1, if_neg (fun z => by have := (i32_le (by omega) (by omega)).mp z; omega), i32_succ w, rgI_at (by omega) (by decide), sc.a 33, hday, b1_some, f2, c2_some, i32_succ k, i32_succ (pc 32 m)]
        rw [expC, expR]
        have h2k : 2 ^ (k + 1) = 2 * 2 ^ k := by rw [Nat.pow_succ]; omega
        rcases f3 with rfl | rfl
        · rw [if_pos rfl, if_pos rfl]
          exact ih (k + 1) m fuel fuel' μ1 ρ1 (e.tr f4) (sc.tr f7) f5 f6 (by omega) (by omega) (by omega) (by omega)
        · rw [if_neg (by decide), if_neg (by decide)]
          exact ih (k + 1) (m + 2 ^ k) fuel fuel' μ1 ρ1 (e.tr f4) (sc.tr f7) f5 f6 (by omega) (by omega) (by omega) (by omega)
theorem call_told {b c v : Nat} {ρ : RS} {μ : Mem} (hI : Invt b c v ρ μ) (hov : ov b ρ μ = μ) (x : Int32) : CallI (S_P_told (some c) x) (R_M_told x) [(0, 1)] b c v ρ μ := by
  have hI0 := hI
  obtain ⟨ro, N, pl, lPl, aX, aY, nc, rt, aT, nt, lC, aW, hH, eE, rR, an, h1, h2, h3, h4, h5, h6, h7, h8, h9, h10, h11, h12, h13, h14, h15, h16⟩ := hI
  rcases watch_get x h1 h8 with ⟨g1, g2⟩ | ⟨w, f, a, l, t, hw, rfl, g1, g2, g3, g4, g5, g6, g7, g8, g9⟩
  · refine .inr ⟨0, m_up μ, 1, 0, rpI ρ 0 1, ?_, by decide, ?_, rfl, by decide, hI0.code 1⟩
    · unfold S_P_told
      rw [rc_at h1.up.1, b1_some, g1, b1_some, if_pos rfl]
    · unfold R_M_told
      rw [g2, c2_some, if_pos rfl]
  · have fr0 : frR ρ (rpI ρ 0 0) := ⟨⟨rfl, rfl, rfl⟩, fun _ _ => rfl⟩
    have hN := h2.2.1
    obtain ⟨μ1, ρ1, m, L1, L2, L3, L4, L5, L6, L7⟩ := told_loop (ρ0 := rpI ρ 0 0) (a := a) (l := l) (t := t) (w := w) h15 h16 h1 (h2.fr fr0) (h3.fr fr0) hw g6 rfl (g7.fr fr0) (g8.fr fr0) N 0 0 fu fu μ (rpI ρ 0 0) (Ext.rf h15) (scR.rf _) h10 h11 (by decide) (by omega) (by show N < 4096; omega) (by show N < 4096; omega)
    have w20 : ∀ q, (q < 15 ∨ (15 < q ∧ q < 20) ∨ 31 ≤ q) → ¬ WMt q := fun q h z => by unfold WMt at z; omega
    have ha1 := g6.ext L4 (w20 _ (by omega))
    have lo1 := L4.lo h15 h16
    have k2 : Ext (fun q => q = 40 + w) ro μ1 ro (m_set μ1 a (.inr (9, [.ref l, .ref t, .int (ra ρ 33 (w + 1)), .int (i32 m)]))) := Ext.set (W := fun q => q = 40 + w) L4.wf ha1 rfl _
    have s2 : pV μ1 (some a) 9 3 (vI (i32 m)) = some (m_set μ1 a (.inr (9, [.ref l, .ref t, .int (ra ρ 33 (w + 1)), .int (i32 m)]))) := pV_at _ ha1.1 (ha1.low lo1) (show 3 < 4 by decide)
    have i2 := ha1.set ro (.inr (9, [.ref l, .ref t, .int (ra ρ 33 (w + 1)), .int (i32 m)]))
    generalize m_set μ1 a (.inr (9, [.ref l, .ref t, .int (ra ρ 33 (w + 1)), .int (i32 m)])) = μ2 at *
    have nW : ∀ q, q ≠ 15 → ¬ (20 ≤ q ∧ q < 31) → q ≠ 40 + w → ¬ (WMt q ∨ q = 40 + w) := fun q h1 h2 h3 z => by unfold WMt at z; omega
    have e : Ext (fun q => WMt q ∨ q = 40 + w) ro μ ro μ2 := (L4.mono (fun r h => .inl h)).tr (k2.mono (fun r h => .inr h))
    have hz : ra (rset ρ1 35 (upd (ra ρ1 35) (w + 1) (i32 m))) 35 = upd (ra ρ 35) (w + 1) (i32 m) := by
      show upd (ra ρ1 35) (w + 1) (i32 m) = _
      rw [L7.a 35]
      rfl
    have fr : frR ρ (rset ρ1 35 (upd (ra ρ1 35) (w + 1) (i32 m))) := by
      refine ⟨⟨L7.i 1, L7.i 18, L7.i 21⟩, fun j hj => ?_⟩
      have : va_up (ra ρ1) 35 (upd (ra ρ1 35) (w + 1) (i32 m)) j = ra ρ1 j := va_up_ne _ _ (by omega)
      exact this.trans (L7.2.1 j (by omega) (by omega))
    have e36 : ri (rset ρ1 35 (upd (ra ρ1 35) (w + 1) (i32 m))) 36 = ri ρ 36 := L7.i 36
    have e37 : ra (rset ρ1 35 (upd (ra ρ1 35) (w + 1) (i32 m))) 37 = ra ρ 37 := L7.a 37
    have e0 : ri (rset ρ1 35 (upd (ra ρ1 35) (w + 1) (i32 m))) 0 = 0 := L7.i 0
    have hR : R_M_told (i32 w) ρ = some (i32 (pc 32 m), rset ρ1 35 (upd (ra ρ1 35) (w + 1) (i32 m))) := by
      unfold R_M_told
      rw [g9, c2_some, if_neg (by decide)]
      have : RB_M_told_17 fu (i32 w) 0 0 0 (rpI ρ 0 0) = RB_M_told_17 fu (i32 w) (i32 (pc 32 0)) (i32 0) (i32 0) (rpI ρ 0 0) := rfl
      rw [this, L2, i32_succ, rsI_at (by omega) (by decide), b1_some]
    generalize rset ρ1 35 (upd (ra ρ1 35) (w + 1) (i32 m)) = ρ9 at *
    refine .inl ⟨i32 (pc 32 m), μ2, ρ9, ?_, ov_keep hov h14 e (nW _ (by omega) (by omega) (by omega)), hR, e0, ⟨ro, N, pl, lPl, aX, aY, nc, rt, aT, nt, lC, aW, hH, eE, rR, an, h1.ext e (nW _ (by omega) (by omega) (by omega)), (h2.ext e (fun q hq => nW _ (by omega) (by omega) (by omega))).fr fr, h3.fr fr, (h4.ext e (nW _ (by omega) (by omega) (by omega)) (nW _ (by omega) (by omega) (by omega))).fr fr, (h5.ext e (nW _ (by omega) (by omega) (by omega))).fr fr, (h6.ext e (nW _ (by omega) (by omega) (by omega))).fr fr, (h7.ext e (nW _ (by omega) (by omega) (by omega)) (nW _ (by omega) (by omega) (by omega)) (nW _ (by omega) (by omega) (by omega))).fr fr, ⟨f, g2.ext e (nW _ (by omega) (by omega) (by omega)), fun w' hw' => ?_⟩, (h9.ext e (nW _ (by omega) (by omega) (by omega)) (nW _ (by omega) (by omega) (by omega)) (nW _ (by omega) (by omega) (by omega))).same e36 e37, L5.ext k2 (by omega) (fun i _ => by omega), L6.ext k2 (by omega), h12.ext e (nW _ (by omega) (by omega) (by omega)), h13.ext e (nW _ (by omega) (by omega) (by omega)), h14.ext e, e.wf, e.lo h15 h16⟩⟩
    · unfold S_P_told
      rw [rc_at h1.1, b1_some, g1, b1_some, if_neg (some_ne _)]
      have : B_P_told_26 fu (some c) (some a) 0 0 μ = B_P_told_26 fu (some c) (some a) (i32 0) (i32 0) μ := rfl
      rw [this, L1, s2, b1_some, bitCount_eq L3, b1_some]
    · by_cases hww : w' = w
      · subst hww
        refine .inr ⟨by rw [fr.2 34 (by decide)]; exact g5, a, l, t, g3, ?_, (g7.ext e (nW _ (by omega) (by omega) (by omega)) (nW _ (by omega) (by omega) (by omega)) (nW _ (by omega) (by omega) (by omega))).fr fr, (g8.ext e (nW _ (by omega) (by omega) (by omega))).fr fr⟩
        rw [fr.2 33 (by decide), hz, upd_at]
        exact i2
      · exact ((g4 w' hw').ext e (nW _ (by omega) (by omega) (by omega)) (nW _ (by omega) (by omega) (by omega)) (nW _ (by omega) (by omega) (by omega)) (nW _ (by omega) (by omega) (by omega))).fr fr (by rw [hz, upd_ne _ _ (by omega)])
