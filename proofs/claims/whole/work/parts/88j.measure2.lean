/-! measuring a side, on both sides -/
theorem c2_some {α β : Type} (x : α) (ρ : RS) (F : α → RS → Option β) : c2 (some (x, ρ)) F = F x ρ := rfl
def lMs (ρ ρ' : RS) : Prop := (∀ k, k ≠ 41 → k ≠ 42 → k ≠ 43 → k ≠ 44 → rl ρ' k = rl ρ k) ∧ ri ρ' = ri ρ ∧ ra ρ' = ra ρ ∧ rL ρ' = rL ρ
theorem lMs.put {ρ ρ' : RS} (h : lMs ρ ρ') (k : Nat) (x : Int64) (hk : k = 41 ∨ k = 42 ∨ k = 43 ∨ k = 44) : lMs ρ (rpL ρ' k x) := by
  obtain ⟨h1, h2, h3, h4⟩ := h
  refine ⟨fun j a b c d => ?_, h2, h3, h4⟩
  have : va_up (rl ρ') k x j = rl ρ' j := va_up_ne _ _ (by omega)
  exact this.trans (h1 j a b c d)
theorem lMs.rf (ρ : RS) : lMs ρ ρ := ⟨fun _ _ _ _ _ => rfl, rfl, rfl, rfl⟩
theorem R_measure_eq {ax ay bx by' x y : Int32} (h1 : inB ax) (h2 : inB ay) (h3 : inB bx) (h4 : inB by') (h5 : inB x) (h6 : inB y) (ρ : RS) : ∃ ρ', R_M_measure ax ay bx by' x y ρ = some ((), ρ') ∧ rl ρ' 41 = i64 (mP ax ay bx by' x y) ∧ rl ρ' 42 = i64 (mQ ax ay bx by' x y) ∧ rl ρ' 43 = i64 (mA ax ay bx by' x y) ∧ rl ρ' 44 = i64 (mL ax ay bx by') ∧ lMs ρ ρ' := by
  have bL := zLen_bd h1 h2 h3 h4
  have bS := zSq_bd h1 h2 h5 h6
  have bS2 := zSq_bd h3 h4 h5 h6
  have bT := zPart_bd h1 h2 h3 h4 h5 h6
  have bO := zOff_bd h1 h2 h3 h4 h5 h6
  have bOO := zOff_sq h1 h2 h3 h4 h5 h6
  obtain ⟨d1, d1b⟩ := diff h3 h1
  obtain ⟨d2, d2b⟩ := diff h4 h2
  obtain ⟨d3, d3b⟩ := diff h5 h1
  obtain ⟨d4, d4b⟩ := diff h6 h2
  obtain ⟨d5, d5b⟩ := diff h5 h3
  obtain ⟨d6, d6b⟩ := diff h6 h4
  have eL : ((bx - ax).toInt64 * (bx - ax).toInt64 + (by' - ay).toInt64 * (by' - ay).toInt64).toInt = zLen ax ay bx by' := by
    rw [dot64 d1b d1b d2b d2b, d1, d2]; rfl
  have eT : ((bx - ax).toInt64 * (x - ax).toInt64 + (by' - ay).toInt64 * (y - ay).toInt64).toInt = zPart ax ay bx by' x y := by
    rw [dot64 d1b d3b d2b d4b, d1, d2, d3, d4, Int.mul_comm, Int.mul_comm (by'.toInt - ay.toInt)]; rfl
  have eO : ((bx - ax).toInt64 * (y - ay).toInt64 - (by' - ay).toInt64 * (x - ax).toInt64).toInt = zOff ax ay bx by' x y := by
    rw [det64 d1b d4b d2b d3b, d1, d2, d3, d4]; rfl
  have eS : ((x - ax).toInt64 * (x - ax).toInt64 + (y - ay).toInt64 * (y - ay).toInt64).toInt = zSq ax ay x y := by
    rw [dot64 d3b d3b d4b d4b, d3, d4]; rfl
  have eS2 : ((x - bx).toInt64 * (x - bx).toInt64 + (y - by').toInt64 * (y - by').toInt64).toInt = zSq bx by' x y := by
    rw [dot64 d5b d5b d6b d6b, d5, d6]; rfl
  have eOO := i64_of (sqr64 eO bO) bOO.1
  have nL := i64_of eL bL.1
  have nS := i64_of eS bS.1
  have nS2 := i64_of eS2 bS2.1
  unfold R_M_measure
  rw [b0_eq, b0_eq, b0_eq, b0_eq]
  generalize hT : (bx - ax).toInt64 * (x - ax).toInt64 + (by' - ay).toInt64 * (y - ay).toInt64 = T at *
  generalize hL : (bx - ax).toInt64 * (bx - ax).toInt64 + (by' - ay).toInt64 * (by' - ay).toInt64 = L at *
  have e59 : (if lg_cmp L 0 = 0 then RB_M_measure_59 ax ay bx by' x y (bx - ax).toInt64 (by' - ay).toInt64 L T 1 ρ else RB_M_measure_59 ax ay bx by' x y (bx - ax).toInt64 (by' - ay).toInt64 L T L ρ) = RB_M_measure_59 ax ay bx by' x y (bx - ax).toInt64 (by' - ay).toInt64 L T (i64 (mL ax ay bx by')) ρ := by
    unfold mL
    by_cases hz : zLen ax ay bx by' = 0
    · rw [if_pos (by rw [nL, hz]; rfl), if_pos hz]
      rfl
    · rw [if_neg (fun q => hz (by have := lg_zero.mp q; rw [this] at eL; exact eL.symm)), if_neg hz, ← nL]
  rw [e59]
  have p1 : (lg_cmp T 0 ≤ 0) ↔ zPart ax ay bx by' x y ≤ 0 := by
    rw [lg_le, Int64.lt_iff_toInt_lt, eT, show (0 : Int64).toInt = 0 from rfl]
    omega
  have p3 : (lg_cmp T L < 0) ↔ zPart ax ay bx by' x y < zLen ax ay bx by' := by
    rw [lg_ltz, Int64.lt_iff_toInt_lt, eT, eL]
  unfold RB_M_measure_59
  rw [b0_eq, b0_eq]
  have l1 : lMs ρ (rpL (rpL ρ 44 (i64 (mL ax ay bx by'))) 42 1) := ((lMs.rf ρ).put 44 _ (by decide)).put 42 _ (by decide)
  by_cases c1 : zPart ax ay bx by' x y ≤ 0
  · rw [if_pos (p1.mpr c1)]
    unfold RB_M_measure_81 RB_M_measure_202
    rw [b0_eq, b0_eq, nS]
    refine ⟨_, rfl, ?_, ?_, ?_, rfl, (l1.put 41 _ (by decide)).put 43 _ (by decide)⟩
    · unfold mP
      rw [if_pos c1]
      rfl
    · unfold mQ
      rw [if_pos c1]
      rfl
    · unfold mA
      rw [if_pos c1]
      rfl
  · have hL0 := zLen_pos (show 0 < zPart ax ay bx by' x y by omega)
    rw [if_neg (fun q => c1 (p1.mp q)), if_neg (fun q => hL0 (by have := lg_zero.mp q; rw [this] at eL; exact eL.symm))]
    by_cases c2 : zPart ax ay bx by' x y < zLen ax ay bx by'
    · rw [if_pos (p3.mpr c2), b0_eq, b0_eq, b0_eq, b0_eq, eOO, nL, i64_of eT (by omega)]
      unfold RB_M_measure_202
      refine ⟨_, rfl, ?_, ?_, ?_, rfl, ((l1.put 41 _ (by decide)).put 42 _ (by decide)).put 43 _ (by decide)⟩
      · unfold mP
        rw [if_neg c1, if_pos c2]
        rfl
      · unfold mQ
        rw [if_neg c1, if_pos c2]
        rfl
      · unfold mA
        rw [if_neg c1, if_pos c2]
        rfl
    · rw [if_neg (fun q => c2 (p3.mp q)), b0_eq, b0_eq, nS2, nL]
      unfold RB_M_measure_202
      refine ⟨_, rfl, ?_, ?_, ?_, rfl, (l1.put 41 _ (by decide)).put 43 _ (by decide)⟩
      · unfold mP
        rw [if_neg c1, if_neg c2]
        rfl
      · unfold mQ
        rw [if_neg c1, if_neg c2]
        rfl
      · unfold mA
        rw [if_neg c1, if_neg c2]
        rfl
theorem b2_id (o : Option (Unit × Mem)) : b2 o (fun _ m => B_Rs_measure_186 m) = o := by
  cases o with
  | none => rfl
  | some q => rfl
theorem Rs_measure_eq {μ : Mem} {R rt n i : Nat} {X Y : Nat → Int32} {x y : Int32} {fs : List Value} (h : CO μ rt n X Y) (hi : i + 1 < n) (hB : ∀ k, k < n → inB (X k) ∧ inB (Y k)) (h5 : inB x) (h6 : inB y) (hR : mF μ R = some (.inr (8, fs))) : S_Rs_measure (some R) (some rt) (i32 i) x y μ = S_Rs_takeIfBetter (some R) (i32 i) (i32 (mA (X i) (Y i) (X (i + 1)) (Y (i + 1)) x y)) (i64 (mP (X i) (Y i) (X (i + 1)) (Y (i + 1)) x y / mQ (X i) (Y i) (X (i + 1)) (Y (i + 1)) x y)) (i64 (mP (X i) (Y i) (X (i + 1)) (Y (i + 1)) x y % mQ (X i) (Y i) (X (i + 1)) (Y (i + 1)) x y)) (i64 (mQ (X i) (Y i) (X (i + 1)) (Y (i + 1)) x y)) μ := by
  obtain ⟨bx0, by0, g0, g1, g2, g3, g4, g5, h8⟩ := h.v
  obtain ⟨h1, h2⟩ := hB i (by omega)
  obtain ⟨h3, h4⟩ := hB (i + 1) hi
  have q1 := Co_squareFrom_eq h (show i < n by omega) x y
  have q2 := Co_squareFrom_eq h hi x y
  unfold sqd at q1 q2
  have v1 := g4 i (by omega)
  have v2 := g5 i (by omega)
  have v3 := g4 (i + 1) hi
  have v4 := g5 (i + 1) hi
  generalize X i = ax at *
  generalize Y i = ay at *
  generalize X (i + 1) = bx at *
  generalize Y (i + 1) = by' at *
  have bL := zLen_bd h1 h2 h3 h4
  have bS := zSq_bd h1 h2 h5 h6
  have bS2 := zSq_bd h3 h4 h5 h6
  have bT := zPart_bd h1 h2 h3 h4 h5 h6
  have bO := zOff_bd h1 h2 h3 h4 h5 h6
  have bOO := zOff_sq h1 h2 h3 h4 h5 h6
  obtain ⟨d1, d1b⟩ := diff h3 h1
  obtain ⟨d2, d2b⟩ := diff h4 h2
  obtain ⟨d3, d3b⟩ := diff h5 h1
  obtain ⟨d4, d4b⟩ := diff h6 h2
  obtain ⟨d5, d5b⟩ := diff h5 h3
  obtain ⟨d6, d6b⟩ := diff h6 h4
  have eL : ((bx - ax) * (bx - ax) + (by' - ay) * (by' - ay)).toInt = zLen ax ay bx by' := by
    rw [dot32 d1b d1b d2b d2b, d1, d2]; rfl
  have eT : ((x - ax) * (bx - ax) + (y - ay) * (by' - ay)).toInt = zPart ax ay bx by' x y := by
    rw [dot32 d3b d1b d4b d2b, d1, d2, d3, d4]; rfl
  have eO : ((bx - ax).toInt64 * (y - ay).toInt64 - (by' - ay).toInt64 * (x - ax).toInt64).toInt = zOff ax ay bx by' x y := by
    rw [det64 d1b d4b d2b d3b, d1, d2, d3, d4]; rfl
  have eS : ((x - ax) * (x - ax) + (y - ay) * (y - ay)).toInt = zSq ax ay x y := by
    rw [dot32 d3b d3b d4b d4b, d3, d4]; rfl
  have eS2 : ((x - bx) * (x - bx) + (y - by') * (y - by')).toInt = zSq bx by' x y := by
    rw [dot32 d5b d5b d6b d6b, d5, d6]; rfl
  have eOO := i64_of (sqr64 eO bO) bOO.1
  have nL := i32_eqn eL bL.1
  have n64 : ∀ {z : Int32} {k : Int}, z.toInt = k → 0 ≤ k → z.toInt64 = i64 k.toNat := fun e0 h0 => i64_of (by rw [Int32.toInt_toInt64]; exact e0) h0
  unfold S_Rs_measure
  rw [g1, g2, b1_some, i32_succ, v3, b1_some, b1_some, v1, b1_some, b0_eq, b1_some, v4, b1_some, b1_some, v2, b1_some, b0_eq, b1_some, v1, b1_some, b0_eq, b1_some, v2, b1_some, b0_eq, b0_eq, b0_eq]
  generalize hT : (x - ax) * (bx - ax) + (y - ay) * (by' - ay) = T at *
  generalize hL : (bx - ax) * (bx - ax) + (by' - ay) * (by' - ay) = L at *
  have p1 : (T ≤ 0) ↔ zPart ax ay bx by' x y ≤ 0 := by
    rw [Int32.le_iff_toInt_le, eT, show (0 : Int32).toInt = 0 from rfl]
  have p2 : (0 < T) ↔ 0 < zPart ax ay bx by' x y := by
    rw [Int32.lt_iff_toInt_lt, eT, show (0 : Int32).toInt = 0 from rfl]
  have p3 : (L ≤ T) ↔ zLen ax ay bx by' ≤ zPart ax ay bx by' x y := by
    rw [Int32.le_iff_toInt_le, eT, eL]
  by_cases c1 : zPart ax ay bx by' x y ≤ 0
  · rw [if_pos (p1.mpr c1)]
    unfold B_Rs_measure_141
    rw [if_neg (fun q => by have := p2.mp q; omega), g3, b1_some, q1, b1_some, rc_at hR, b1_some, b2_id, n64 eS bS.1]
    unfold mP mQ mA
    simp only [if_pos c1, Nat.div_one, Nat.mod_one]
    rfl
  · rw [if_neg (fun q => c1 (p1.mp q))]
    by_cases c2 : zPart ax ay bx by' x y < zLen ax ay bx by'
    · have ez : L.toInt64 = i64 (zLen ax ay bx by').toNat := n64 eL bL.1
      have nz : ¬ L.toInt64 = 0 := fun q => by
        rw [ez] at q
        have := (i64_eq (b := 0) (by omega) (by decide)).mp q
        omega
      rw [if_neg (fun q => by have := p3.mp q; omega), b0_eq, gd_no nz, gd_no nz, rc_at hR, b1_some, b2_id, eOO, ez, i64_mod (by omega) (by omega), i64_div (by omega) (by omega), i32_eqn eT (by omega)]
      unfold mP mQ mA
      simp only [if_neg c1, if_pos c2]
    · rw [if_pos (p3.mpr (by omega))]
      unfold B_Rs_measure_141
      rw [if_pos (p2.mpr (by omega)), g3, b1_some, i32_succ, q2, b1_some, rc_at hR, b1_some, b2_id, n64 eS2 bS2.1, nL]
      unfold mP mQ mA
      simp only [if_neg c1, if_neg c2, Nat.div_one, Nat.mod_one]
      rfl
