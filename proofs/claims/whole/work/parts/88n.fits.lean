/-! along a route, below a place: on both sides -/
theorem scN.sc {ρ ρ' : RS} (h : scN ρ ρ') : scR ρ ρ' := ⟨fun k _ h2 => h.1 k h2, fun j _ _ => congrFun h.2.1 j, h.2.2⟩
theorem along_eq {ro : Nat → Nat} {μ : Mem} {ρ : RS} {s t a rt rR D : Nat} {id day : Int32} (w : WF μ) (lo : LO μ) (hs : s < 5) (ht : t < 90) (hD : D ≤ 10000) (hr : IR ro μ ρ s rt) (hz : IZ ro μ ρ t a) (hS : IS ro μ rR) (hsh : R_M_shapeOf id day ρ = some (i32 t)) : ∃ (μ' : Mem) (ρ' : RS) (r : Int32), S_Rs_start (some rR) (some rt) (some a) μ = some ((), μ') ∧ S_Rs_isWithin (some rR) (i32 D) μ' = some r ∧ R_M_isOnRoute id day (i32 s) (i32 D) ρ = some (r, ρ') ∧ (r = 0 ∨ r = 1) ∧ Ext (fun q => q = 15) ro μ ro μ' ∧ IS ro μ' rR ∧ rc μ' (some rR) 8 = some () ∧ scR ρ ρ' := by
  obtain ⟨n, r1, r2, r3, r4⟩ := hr
  obtain ⟨m, z1, z2, z3, z4, z5, z6⟩ := hz
  obtain ⟨μ', o, fs, t1, t2, t3, t4, t5⟩ := Rs_start_eq w lo hS r3 z4 r4 z5 r2 z3
  have hw := Rs_isWithin_eq (D := D) t3 t4 (cQ_pos _ _ _ _) hD (fun c hc => by
    subst hc
    obtain ⟨q1, q2⟩ := t5.1
    obtain ⟨c1, c2, c3⟩ := c_bd r4 z5 q1 q2
    exact ⟨by omega, c2⟩)
  have h30 : rgI ρ 30 5 (i32 s) = some (i32 n) := by rw [rgI_at hs (by decide), r1]
  by_cases hn : 2 ≤ n
  · obtain ⟨ρ', o', n1, n2, n3, n4⟩ := R_nearest_eq hs ht hsh r1 z1 r4 z5 r2 z3
    rcases t5.one n4 with ⟨h1, h2⟩ | ⟨i, j, j', h1, h2, h3, h4⟩
    · subst h1
      exact absurd ⟨by omega, by omega⟩ (t5 0 0)
    · subst h1 h2
      obtain ⟨q1, q2⟩ := t5.1
      obtain ⟨q1', q2'⟩ := n4.1
      obtain ⟨c1, c2, c3⟩ := c_bd r4 z5 q1 q2
      obtain ⟨d1, d2, d3⟩ := c_bd r4 z5 q1' q2'
      obtain ⟨m1, m2, m3, m4, m5⟩ := n3
      dsimp only at m2 m3
      have p1 := cQ_pos (fun k => ra ρ 31 (8 * s + k)) (fun k => ra ρ 32 (8 * s + k)) (fun k => ra ρ 7 (8 * t + k)) (fun k => ra ρ 8 (8 * t + k)) i j
      have p2 := cQ_pos (fun k => ra ρ 31 (8 * s + k)) (fun k => ra ρ 32 (8 * s + k)) (fun k => ra ρ 7 (8 * t + k)) (fun k => ra ρ 8 (8 * t + k)) i j'
      obtain ⟨r, hw2, hr01, hr1⟩ : ∃ r : Int32, S_Rs_isWithin (some rR) (i32 D) μ' = some r ∧ (r = 0 ∨ r = 1) ∧ (r = 1 ↔ cP (fun k => ra ρ 31 (8 * s + k)) (fun k => ra ρ 32 (8 * s + k)) (fun k => ra ρ 7 (8 * t + k)) (fun k => ra ρ 8 (8 * t + k)) i j ≤ D * D * cQ (fun k => ra ρ 31 (8 * s + k)) (fun k => ra ρ 32 (8 * s + k)) (fun k => ra ρ 7 (8 * t + k)) (fun k => ra ρ 8 (8 * t + k)) i j) := by
        refine ⟨_, hw, ?_, ?_⟩
        · split
          · exact .inr rfl
          · exact .inl rfl
        · by_cases h : wiQ (cP (fun k => ra ρ 31 (8 * s + k)) (fun k => ra ρ 32 (8 * s + k)) (fun k => ra ρ 7 (8 * t + k)) (fun k => ra ρ 8 (8 * t + k))) (cQ (fun k => ra ρ 31 (8 * s + k)) (fun k => ra ρ 32 (8 * s + k)) (fun k => ra ρ 7 (8 * t + k)) (fun k => ra ρ 8 (8 * t + k))) (some (i, j)) D = true
          · rw [if_pos h]
            exact ⟨fun _ => of_decide_eq_true h, fun _ => rfl⟩
          · rw [if_neg h]
            exact ⟨fun q => absurd q (by decide), fun q => absurd (decide_eq_true q) h⟩
      clear hw
      generalize cP (fun k => ra ρ 31 (8 * s + k)) (fun k => ra ρ 32 (8 * s + k)) (fun k => ra ρ 7 (8 * t + k)) (fun k => ra ρ 8 (8 * t + k)) i j = P1 at *
      generalize cP (fun k => ra ρ 31 (8 * s + k)) (fun k => ra ρ 32 (8 * s + k)) (fun k => ra ρ 7 (8 * t + k)) (fun k => ra ρ 8 (8 * t + k)) i j' = P2 at *
      generalize cQ (fun k => ra ρ 31 (8 * s + k)) (fun k => ra ρ 32 (8 * s + k)) (fun k => ra ρ 7 (8 * t + k)) (fun k => ra ρ 8 (8 * t + k)) i j = Q1 at *
      generalize cQ (fun k => ra ρ 31 (8 * s + k)) (fun k => ra ρ 32 (8 * s + k)) (fun k => ra ρ 7 (8 * t + k)) (fun k => ra ρ 8 (8 * t + k)) i j' = Q2 at *
      have e64 : (i32 D).toInt64 = i64 D := Int32.toInt64_ofNat' (by rw [Int32.toInt_maxValue]; omega)
      have hDD : D * D ≤ 10000 * 10000 := Nat.mul_le_mul hD hD
      have hDQ : D * D * Q2 ≤ 10000 * 10000 * 33538050 := Nat.mul_le_mul hDD d2
      have key : (P1 ≤ D * D * Q1) ↔ (P2 ≤ D * D * Q2) := by
        constructor
        · intro h
          have h5 : P1 * Q2 ≤ D * D * Q1 * Q2 := Nat.mul_le_mul_right Q2 h
          rw [h3, Nat.mul_assoc, Nat.mul_comm Q1 Q2, ← Nat.mul_assoc] at h5
          exact Nat.le_of_mul_le_mul_right h5 p1
        · intro h
          have h5 : P2 * Q1 ≤ D * D * Q2 * Q1 := Nat.mul_le_mul_right Q1 h
          rw [← h3, Nat.mul_assoc, Nat.mul_comm Q2 Q1, ← Nat.mul_assoc] at h5
          exact Nat.le_of_mul_le_mul_right h5 p2
      refine ⟨μ', ρ', r, t1, hw2, ?_, hr01, t2, rsC.is t3 t4, rc_at t3.1, n2.sc⟩
      unfold R_M_isOnRoute RB_M_isOnRoute_44
      rw [h30, b1_some, if_pos (show (2 : Int32) ≤ i32 n from (i32_le (a := 2) (by decide) (by omega)).mpr hn), n1, c2_some, m2, m3, e64, i64_mul, i64_mul, lg_nat (by omega) (by omega)]
      by_cases h : P1 ≤ D * D * Q1
      · have h' := key.mp h
        rw [if_neg (show ¬ D * D * Q2 < P2 by omega), hr1.mpr h]
        by_cases h6 : P2 = D * D * Q2
        · rw [if_pos h6, if_neg (by decide)]
          rfl
        · rw [if_neg h6, if_neg (by decide)]
          rfl
      · have h' : ¬ P2 ≤ D * D * Q2 := fun q => h (key.mpr q)
        rcases hr01 with rfl | rfl
        · rw [if_pos (show D * D * Q2 < P2 by omega), if_pos (by decide)]
          rfl
        · exact absurd (hr1.mp rfl) h
  · cases o with
    | none =>
      refine ⟨μ', ρ, 0, t1, hw, ?_, .inl rfl, t2, rsC.is t3 t4, rc_at t3.1, scR.rf ρ⟩
      unfold R_M_isOnRoute
      rw [h30, b1_some, if_neg (show ¬ (2 : Int32) ≤ i32 n from fun q => by have := (i32_le (a := 2) (by decide) (by omega)).mp q; omega)]
      rfl
    | some c =>
      obtain ⟨q1, q2⟩ := t5.1
      exfalso
      omega
theorem below_eq {ro : Nat → Nat} {μ : Mem} {ρ : RS} {pl : Nat → Nat} {N i lPl : Nat} {day id : Int32} (h2 : IPs ro μ ρ pl N lPl) (hA : IA ρ N) (hi : i < N) : ∃ r : Int32, S_P_isBelow (some (pl i)) id day μ = some r ∧ (r = 0 ∨ r = 1) ∧ ∀ (F : Int32 → Option (Int32 × RS)), b1 (R_M_parentOf (i32 i) day ρ) (fun x128 => if x128 = -1 then F 0 else b1 (R_M_parentOf (i32 i) day ρ) (fun x141 => b1 (R_M_isAbove id x141 day ρ) (fun x145 => if x145 = 0 then F 0 else F 1))) = F r := by
  have hN := h2.2.1
  obtain ⟨u1, u2, u3, u4, u5, u6⟩ := h2.ups hA day
  have hS : S_P_isBelow (some (pl i)) id day μ = some (bI (belF (upD ρ day) id 30 (upD ρ day i) = true)) := by
    unfold S_P_isBelow
    rw [u2 i hi, b1_some, u3 i hi, b1_some]
    exact P_below u1 u2 u3 u5 30 0 (upD ρ day i) fu (u5 i hi) (by omega) (by decide)
  refine ⟨_, hS, ?_, fun F => ?_⟩
  · unfold bI
    split
    · exact .inr rfl
    · exact .inl rfl
  · rw [u4 i hi, b1_some, b1_some]
    cases hu : upD ρ day i with
    | none =>
      rw [if_pos (show plNo none = -1 from rfl), bI_neg (show ¬ belF (upD ρ day) id 30 none = true from fun q => by cases q)]
    | some p =>
      have hp := u5 i hi p hu
      have hab : R_M_isAbove id (plNo (some p)) day ρ = some (bI (belF (upD ρ day) id 31 (some p) = true)) := R_above hN u4 u5 31 0 (some p) fu (fun j hj => by cases hj; exact hp) (by omega) (by decide)
      rw [if_neg (show ¬ plNo (some p) = -1 from plNo_neg (by omega)), hab, b1_some, bel_stable 30 p 31 (u6 p hp) (by omega)]
      by_cases hb : belF (upD ρ day) id 30 (some p) = true
      · rw [if_neg (by rw [bI_pos hb]; decide), bI_pos hb]
      · rw [if_pos (bI_neg hb), bI_neg hb]
def WMt (r : Nat) : Prop := (20 ≤ r ∧ r < 31) ∨ r = 15
theorem mt_head {ρ : RS} {i s q n : Nat} {day : Int32} (hs : s < 5) (hn : ra ρ 23 s = i32 n) (h5 : n ≤ 5) (hq : q < n) (fuel : Nat) : RB_M_meets_11 (fuel + 1) (i32 i) day (i32 s) 1 (i32 q) ρ = (if 4 ≤ ra ρ 24 (5 * s + q) then if ra ρ 24 (5 * s + q) = 4 then b1 (rgI ρ 2 30 (i32 i)) (fun x83 => if x83 = ra ρ 25 (5 * s + q) then RB_M_meets_11 fuel (i32 i) day (i32 s) 1 (i32 (q + 1)) ρ else RB_M_meets_11 fuel (i32 i) day (i32 s) 0 (i32 (q + 1)) ρ) else if ra ρ 24 (5 * s + q) = 5 then b1 (R_M_isInside (i32 i) (ra ρ 25 (5 * s + q)) day ρ) (fun x110 => RB_M_meets_11 fuel (i32 i) day (i32 s) x110 (i32 (q + 1)) ρ) else if ra ρ 24 (5 * s + q) = 6 then b1 (R_M_parentOf (i32 i) day ρ) (fun x128 => if x128 = -1 then RB_M_meets_11 fuel (i32 i) day (i32 s) 0 (i32 (q + 1)) ρ else b1 (R_M_parentOf (i32 i) day ρ) (fun x141 => b1 (R_M_isAbove (ra ρ 25 (5 * s + q)) x141 day ρ) (fun x145 => if x145 = 0 then RB_M_meets_11 fuel (i32 i) day (i32 s) 0 (i32 (q + 1)) ρ else RB_M_meets_11 fuel (i32 i) day (i32 s) 1 (i32 (q + 1)) ρ))) else if ra ρ 24 (5 * s + q) = 7 then b1 (rgI ρ 26 25 (i32 (5 * s + q))) (fun x179 => b1 (R_M_square (i32 i) day (ra ρ 25 (5 * s + q)) x179 ρ) (fun x180 => b1 (rgI ρ 27 25 (i32 (5 * s + q))) (fun x189 => b1 (rgI ρ 27 25 (i32 (5 * s + q))) (fun x196 => if x189 * x196 < x180 then RB_M_meets_11 fuel (i32 i) day (i32 s) 0 (i32 (q + 1)) ρ else RB_M_meets_11 fuel (i32 i) day (i32 s) 1 (i32 (q + 1)) ρ)))) else c2 (R_M_isOnRoute (i32 i) day (i32 s) (ra ρ 25 (5 * s + q)) ρ) (fun x217 ρ217 => RB_M_meets_11 fuel (i32 i) day (i32 s) x217 (i32 (q + 1)) ρ217) else c2 (R_M_hasName (i32 i) day (i32 (5 * s + q)) ρ) (fun x64 ρ64 => RB_M_meets_11 fuel (i32 i) day (i32 s) x64 (i32 (q + 1)) ρ64)) := by
  rw [← i32_succ q]
  show b1 (rgI ρ 23 5 (i32 s)) (fun x18 => if x18 ≤ i32 q then _ else if (1 : Int32) = 0 then _ else b0 ((5 * i32 s) + i32 q) (fun x33 => b1 (rgI ρ 25 25 x33) (fun x41 => b1 (rgI ρ 24 25 x33) (fun x50 => _)))) = _
  rw [rgI_at hs (by decide), hn, b1_some, if_neg (fun z => by have := (i32_le (by omega) (by omega)).mp z; omega), if_neg (by decide), b0_eq, i32_5, rgI_at (by omega) (by decide), b1_some, rgI_at (by omega) (by decide), b1_some]
  rfl
