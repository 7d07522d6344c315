/-! meets -/
theorem scR.a {ρ ρ' : RS} (h : scR ρ ρ') (j : Nat) (h1 : j ≠ 39 := by decide) (h2 : j ≠ 40 := by decide) : ra ρ' j = ra ρ j := h.2.1 j h1 h2
theorem scR.i {ρ ρ' : RS} (h : scR ρ ρ') (j : Nat) (h1 : j ≠ 38 := by decide) (h2 : j ≠ 49 := by decide) : ri ρ' j = ri ρ j := h.1 j h1 h2
theorem IPs.sc {ro : Nat → Nat} {μ : Mem} {ρ ρ' : RS} {pl : Nat → Nat} {N l : Nat} (h : IPs ro μ ρ pl N l) (e : scR ρ ρ') : IPs ro μ ρ' pl N l := h.same (e.i 1) (e.a 2) (e.a 3) (e.a 4) (e.a 5) (e.a 6) (e.a 7) (e.a 8) (e.a 9) (e.a 10) (e.a 11) (e.a 12) (e.a 13) (e.a 14) (e.a 15) (e.a 16) (e.a 17)
theorem IA.sc {ρ ρ' : RS} {N : Nat} (h : IA ρ N) (e : scR ρ ρ') : IA ρ' N := h.same (fun i _ => congrFun (e.a 4) i) (fun i _ => congrFun (e.a 9) i) (e.a 14) (e.a 15) (e.a 16) (e.a 17)
theorem IR.sc {ro : Nat → Nat} {μ : Mem} {ρ ρ' : RS} {s a : Nat} (h : IR ro μ ρ s a) (e : scR ρ ρ') : IR ro μ ρ' s a := h.same (e.a 30) (e.a 31) (e.a 32)
theorem IC.sc {ro : Nat → Nat} {μ : Mem} {ρ ρ' : RS} {N s l r : Nat} (h : IC ro μ ρ N s l r) (e : scR ρ ρ') : IC ro μ ρ' N s l r := h.same (e.a 23) (e.a 24) (e.a 25) (e.a 26) (e.a 27) (e.a 28) (e.a 29)
theorem IQ.sc {ro : Nat → Nat} {μ : Mem} {ρ ρ' : RS} {N q a : Nat} (h : IQ ro μ ρ N q a) (e : scR ρ ρ') : IQ ro μ ρ' N q a := h.rho (Nat.le_refl _) (congrFun (e.a 24) _) (congrFun (e.a 25) _) (congrFun (e.a 26) _) (congrFun (e.a 27) _) (congrFun (e.a 28) _) (fun j _ => congrFun (e.a 29) _)
theorem IZ.sc {ro : Nat → Nat} {μ : Mem} {ρ ρ' : RS} {s a : Nat} (h : IZ ro μ ρ s a) (e : scR ρ ρ') : IZ ro μ ρ' s a := h.rho' (congrFun (e.a 6) _) (fun k _ => ⟨congrFun (e.a 7) _, congrFun (e.a 8) _⟩)
theorem shapeOf_sc {ρ ρ' : RS} (e : scR ρ ρ') (x y : Int32) : R_M_shapeOf x y ρ' = R_M_shapeOf x y ρ := by
  have h4 : ∀ n i, rgI ρ' 4 n i = rgI ρ 4 n i := fun n i => by unfold rgI; rw [e.a 4]
  have h5 : ∀ n i, rgI ρ' 5 n i = rgI ρ 5 n i := fun n i => by unfold rgI; rw [e.a 5]
  have hl : ∀ fuel, RB_M_shapeOf_5 ρ' fuel = RB_M_shapeOf_5 ρ fuel := by
    intro fuel
    induction fuel with
    | zero => rfl
    | succ n ih =>
      funext v1 v2 v3 v4
      unfold RB_M_shapeOf_5 RB_M_shapeOf_38
      simp only [h4, h5, ih]
  unfold R_M_shapeOf
  rw [hl]
theorem meets_end {ρ : RS} {i s n q : Nat} {day : Int32} (hs : s < 5) (hn : ra ρ 23 s = i32 n) (fuel : Nat) : RB_M_meets_11 (fuel + 1) (i32 i) day (i32 s) 0 (i32 q) ρ = some (0, ρ) := by
  show b1 (rgI ρ 23 5 (i32 s)) (fun x18 => if x18 ≤ i32 q then RB_M_meets_228 0 ρ else if (0 : Int32) = 0 then RB_M_meets_228 0 ρ else _) = _
  rw [rgI_at hs (by decide), hn, b1_some]
  split
  · rfl
  · rw [if_pos rfl]
    rfl
theorem meets_loop {ro : Nat → Nat} {μ0 : Mem} {ρ0 : RS} {pl cq : Nat → Nat} {N i c lPl aX aY nc rt0 aT nt lC aW hH eE rR an rt s n k a l rl' : Nat} (day : Int32) (w0 : WF μ0) (lo0 : LO μ0) (h1 : Is ro μ0 c 2 (PFc lPl aX aY nc rt0 aT nt lC aW hH eE rR an)) (h2 : IPs ro μ0 ρ0 pl N lPl) (hA : IA ρ0 N) (hr : IR ro μ0 ρ0 s rt) (hAR : AR ro μ0 l rl' n cq) (hQ : ∀ q, q < n → IQ ro μ0 ρ0 N (5 * s + q) (cq q)) (hrl : ¬ WMt rl') (hrl1 : ¬ WMt (rl' + 1)) (hs : s < 5) (hn : ra ρ0 23 s = i32 n) (hn5 : n ≤ 5) (hi : i < N) (hk : k < 3) (s2 : R_M_shapeOf (i32 i) day ρ0 = some (i32 (3 * i + k))) (s3 : IZ ro μ0 ρ0 (3 * i + k) a) (M : Nat) : ∀ (q fuel fuel' : Nat) (μ : Mem) (ρ : RS), Ext WMt ro μ0 ro μ → scR ρ0 ρ → IE ro μ eE → IS ro μ rR → q + M = n → M < fuel → M < fuel' → ∃ (μ' : Mem) (ρ' : RS) (r : Int32), B_P_meets_27 fuel (some c) (some (pl i)) (some l) (some rt) day (some a) (i32 q) μ = some (r, μ') ∧ RB_M_meets_11 fuel' (i32 i) day (i32 s) 1 (i32 q) ρ = some (r, ρ') ∧ (r = 0 ∨ r = 1) ∧ Ext WMt ro μ0 ro μ' ∧ IE ro μ' eE ∧ IS ro μ' rR ∧ scR ρ0 ρ' := by
  have w20 : ∀ q, (q < 15 ∨ (15 < q ∧ q < 20) ∨ 31 ≤ q) → ¬ WMt q := fun q h z => by unfold WMt at z; omega
  induction M with
  | zero =>
    intro q fuel fuel' μ ρ e sc hE hS hq hf hf'
    cases fuel with
    | zero => omega
    | succ fuel =>
      cases fuel' with
      | zero => omega
      | succ fuel' =>
        have hAR1 := hAR.ext e hrl hrl1
        refine ⟨μ, ρ, 1, ?_, ?_, .inr rfl, e, hE, hS, sc⟩
        · show b1 (rc μ (some l) 0) (fun _ => b1 (S_Al_size (some l) μ) (fun x30 => if x30 ≤ i32 q then gd (¬ okZ 1 = true) (some (1, μ)) else _)) = _
          rw [hAR1.rc, b1_some, hAR1.size, b1_some, if_pos ((i32_le (by omega) (by omega)).mpr (by omega))]
          rfl
        · show b1 (rgI ρ 23 5 (i32 s)) (fun x18 => if x18 ≤ i32 q then RB_M_meets_228 1 ρ else _) = _
          rw [rgI_at hs (by decide), sc.a 23, hn, b1_some, if_pos ((i32_le (by omega) (by omega)).mpr (by omega))]
          rfl
  | succ M ih =>
    intro q fuel fuel' μ ρ e sc hE hS hq hf hf'
    cases fuel with
    | zero => omega
    | succ fuel =>
      cases fuel' with
      | zero => omega
      | succ fuel' =>
        have hqn : q < n := by omega
        have hAR1 := hAR.ext e hrl hrl1
        have h11 := h1.ext e (w20 _ (by omega))
        have hQ1 := ((hQ q hqn).ext e (w20 _ (by omega))).sc sc
        obtain ⟨len, ⟨wo, c1, -⟩, -⟩ := hQ q hqn
        have c11 := c1.ext e (w20 _ (by omega))
        obtain ⟨μ1, ρ1, r, f1, f2, f3, f4, f5, f6, f7⟩ := fits_eq (q := q) day e.wf (e.lo w0 lo0) h11 ((h2.ext e (fun z hz => w20 z (by omega))).sc sc) (hA.sc sc) hE hS ((hr.ext e (w20 _ (by omega))).sc sc) hQ1 hs ((congrFun (sc.a 23) s).trans hn) hn5 hqn hi hk ((shapeOf_sc sc _ _).trans s2) ((s3.ext e (w20 _ (by omega))).sc sc)
        have expC : B_P_meets_27 (fuel + 1) (some c) (some (pl i)) (some l) (some rt) day (some a) (i32 q) μ = if r = 0 then gd (¬ okZ 0 = true) (some (0, μ1)) else B_P_meets_27 fuel (some c) (some (pl i)) (some l) (some rt) day (some a) (i32 (q + 1)) μ1 := by
          show b1 (rc μ (some l) 0) (fun _ => b1 (S_Al_size (some l) μ) (fun x30 => if x30 ≤ i32 q then _ else b1 (rc μ (some l) 0) (fun _ => b1 (S_Al_get (some l) (i32 q) μ) (fun x43 => b1 (cK μ x43 1) (fun _ => b1 (rc μ (some c) 11) (fun _ => b2 (S_P_fits (some c) (some (pl i)) (some a) x43 (some rt) day μ) (fun x52 m52 => if x52 = 0 then gd (¬ okZ 0 = true) (some (0, m52)) else B_P_meets_27 fuel (some c) (some (pl i)) (some l) (some rt) day (some a) (i32 q + 1) m52))))))) = _
          rw [hAR1.rc, b1_some, hAR1.size, b1_some, if_neg (fun z => by have := (i32_le (by omega) (by omega)).mp z; omega), b1_some, hAR1.get hqn, b1_some, cK_at c11.1, b1_some, rc_at h11.1, b1_some, f1, b2_some, i32_succ]
        rw [expC, f2 fuel']
        rcases f3 with rfl | rfl
        · refine ⟨μ1, ρ1, 0, by rfl, ?_, .inl rfl, e.tr f4, f5, f6, sc.tr f7⟩
          cases fuel' with
          | zero => omega
          | succ fuel' => exact meets_end hs (by rw [(sc.tr f7).a 23]; exact hn) fuel'
        · rw [if_neg (by decide)]
          exact ih (q + 1) fuel fuel' μ1 ρ1 (e.tr f4) (sc.tr f7) f5 f6 (by omega) (by omega) (by omega)
theorem meets_eq {ro : Nat → Nat} {μ : Mem} {ρ : RS} {pl : Nat → Nat} {N i c lPl aX aY nc rt0 aT nt lC aW hH eE rR an rt s l rl' : Nat} (day : Int32) (w : WF μ) (lo : LO μ) (h1 : Is ro μ c 2 (PFc lPl aX aY nc rt0 aT nt lC aW hH eE rR an)) (h2 : IPs ro μ ρ pl N lPl) (hA : IA ρ N) (hE : IE ro μ eE) (hS : IS ro μ rR) (hr : IR ro μ ρ s rt) (hC : IC ro μ ρ N s l rl') (hrl : ¬ WMt rl') (hrl1 : ¬ WMt (rl' + 1)) (hs : s < 5) (hi : i < N) : ∃ (μ' : Mem) (ρ' : RS) (r : Int32), S_P_meets (some c) (some (pl i)) (some l) (some rt) day μ = some (r, μ') ∧ R_M_meets (i32 i) day (i32 s) ρ = some (r, ρ') ∧ (r = 0 ∨ r = 1) ∧ Ext WMt ro μ ro μ' ∧ IE ro μ' eE ∧ IS ro μ' rR ∧ scR ρ ρ' ∧ (r = 1 → ∃ (k a : Nat), S_Pl_shapeOn (some (pl i)) day μ = some (some a) ∧ R_M_shapeOf (i32 i) day ρ = some (i32 (3 * i + k)) ∧ k < 3 ∧ IZ ro μ ρ (3 * i + k) a) := by
  have hN := h2.2.1
  have hP := h2.2.2.2 i hi
  obtain ⟨n, cq, e1, e2, e3, e4⟩ := hC
  obtain ⟨k, a, o, t1, t2, t3, t4, t5, t6⟩ := hP.shape (by omega) day
  obtain ⟨sh, sd, nm, lk, p1, p2⟩ := hP
  have hrem := Pl_isRemovedOn_eq p1.1 day
  have hno : ¬ (o = true ∧ ¬ ra ρ 3 i ≤ day) → S_P_meets (some c) (some (pl i)) (some l) (some rt) day μ = some (0, μ) → ∃ (μ' : Mem) (ρ' : RS) (r : Int32), S_P_meets (some c) (some (pl i)) (some l) (some rt) day μ = some (r, μ') ∧ R_M_meets (i32 i) day (i32 s) ρ = some (r, ρ') ∧ (r = 0 ∨ r = 1) ∧ Ext WMt ro μ ro μ' ∧ IE ro μ' eE ∧ IS ro μ' rR ∧ scR ρ ρ' ∧ (r = 1 → ∃ (k a : Nat), S_Pl_shapeOn (some (pl i)) day μ = some (some a) ∧ R_M_shapeOf (i32 i) day ρ = some (i32 (3 * i + k)) ∧ k < 3 ∧ IZ ro μ ρ (3 * i + k) a) := by
    intro hn hS0
    refine ⟨μ, ρ, 0, hS0, ?_, .inl rfl, Ext.rf w, hE, hS, scR.rf ρ, fun q => absurd q (by decide)⟩
    unfold R_M_meets
    rw [t4, b1_some, bI_neg hn]
    exact meets_end (q := 0) hs e1 4095
  cases o with
  | false =>
    have t1 : S_Pl_shapeOn (some (pl i)) day μ = some none := t1
    refine hno (fun q => by cases q.1) ?_
    unfold S_P_meets
    rw [rc_at p1.1, b1_some, t1, b1_some, if_pos rfl]
    rfl
  | true =>
    have t1 : S_Pl_shapeOn (some (pl i)) day μ = some (some a) := t1
    have t2 : R_M_shapeOf (i32 i) day ρ = some (i32 (3 * i + k)) := t2
    by_cases hd : ra ρ 3 i ≤ day
    · refine hno (fun q => q.2 hd) ?_
      unfold S_P_meets
      rw [rc_at p1.1, b1_some, t1, b1_some, if_neg (some_ne _), b1_some, hrem, b1_some, if_neg (by rw [bI_pos hd]; decide)]
      rfl
    · have s3 := t6 rfl
      obtain ⟨μ', ρ', r, m1, m2, m3, m4, m5, m6, m7⟩ := meets_loop (rl' := rl') day w lo h1 h2 hA hr e3 e4 hrl hrl1 hs e1 e2 hi t5 t2 s3 n 0 fu fu μ ρ (Ext.rf w) (scR.rf ρ) hE hS (by omega) (by show n < 4096; omega) (by show n < 4096; omega)
      refine ⟨μ', ρ', r, ?_, ?_, m3, m4, m5, m6, m7, fun _ => ⟨k, a, t1, t2, t5, s3⟩⟩
      · unfold S_P_meets
        rw [rc_at p1.1, b1_some, t1, b1_some, if_neg (some_ne _), b1_some, hrem, b1_some, if_pos (bI_neg hd)]
        exact m1
      · unfold R_M_meets
        rw [t4, b1_some, bI_pos ⟨rfl, hd⟩]
        exact m2
