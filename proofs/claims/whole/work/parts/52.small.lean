/-! small questions -/
def bI (p : Prop) [Decidable p] : Int32 := if p then 1 else 0
theorem bI_pos {p : Prop} [Decidable p] (h : p) : bI p = 1 := if_pos h
theorem bI_neg {p : Prop} [Decidable p] (h : ¬ p) : bI p = 0 := if_neg h
theorem bI_ok (p : Prop) [Decidable p] : okZ (bI p) = true := by
  unfold bI
  split <;> decide
theorem bI_zero {p : Prop} [Decidable p] : (bI p = 0) ↔ ¬ p := by
  unfold bI
  split
  · rename_i h
    simp [h]
  · rename_i h
    simp [h]
theorem gd0 : gd (¬ okZ 0 = true) (some (0 : Int32)) = some 0 := by decide
theorem gd1 : gd (¬ okZ 1 = true) (some (1 : Int32)) = some 1 := by decide
theorem gd_bI (p : Prop) [Decidable p] : gd (¬ okZ (bI p) = true) (some (bI p)) = some (bI p) := gd_no (fun h => h (bI_ok p)) _
theorem i32_nlt {a b : Int32} : ¬ a < b ↔ b ≤ a := Int32.not_lt
theorem i32_nle {a b : Int32} : ¬ a ≤ b ↔ b < a := Int32.not_le
theorem R_in (v lo hi : Int32) : R_M_in v lo hi = some (bI (lo ≤ v ∧ v ≤ hi)) := by
  unfold R_M_in RB_M_in_14 RB_M_in_15
  by_cases h1 : v < lo
  · rw [if_pos h1, bI_neg (fun h => absurd h1 (i32_nlt.mpr h.1))]
    exact gd0
  · rw [if_neg h1]
    by_cases h2 : hi < v
    · rw [if_pos h2, bI_neg (fun h => absurd h2 (i32_nlt.mpr h.2))]
      exact gd0
    · rw [if_neg h2, bI_pos ⟨i32_nlt.mp h1, i32_nlt.mp h2⟩]
      exact gd1
def dayQ (d : Int32) : Prop := 0 ≤ d ∧ d ≤ 9999
def posQ (x y : Int32) : Prop := (0 ≤ x ∧ x ≤ 4095) ∧ (0 ≤ y ∧ y ≤ 4095)
def spanQ (a b : Int32) : Prop := dayQ a ∧ dayQ b ∧ a ≤ b
def kindQ (k : Int32) : Prop := 0 ≤ k ∧ k ≤ 7
def farQ (k : Int32) : Prop := 0 ≤ k ∧ k ≤ 10000
theorem R_isDay (d : Int32) : R_M_isDay d = some (bI (0 ≤ d ∧ d ≤ 9999)) := by
  unfold R_M_isDay
  rw [R_in, b1_some, gd_bI]
theorem S_isDay (d : Int32) (μ : Mem) : S_P_isDay d μ = some (bI (0 ≤ d ∧ d ≤ 9999)) := (show S_P_isDay d μ = R_M_in d 0 9999 from rfl).trans (R_in _ _ _)
theorem S_isKind (d : Int32) (μ : Mem) : S_P_isKind d μ = some (bI (0 ≤ d ∧ d ≤ 7)) := (show S_P_isKind d μ = R_M_in d 0 7 from rfl).trans (R_in _ _ _)
theorem S_isDistance (d : Int32) (μ : Mem) : S_P_isDistance d μ = some (bI (0 ≤ d ∧ d ≤ 10000)) := (show S_P_isDistance d μ = R_M_in d 0 10000 from rfl).trans (R_in _ _ _)
theorem bI_if {p : Prop} [Decidable p] {β : Type} (a b : β) : (if bI p = 0 then a else b) = if p then b else a := by
  by_cases h : p
  · rw [bI_pos h, if_pos h]
    rfl
  · rw [bI_neg h, if_neg h]
    rfl
theorem R_isAt (x y : Int32) : R_M_isAt x y = some (bI ((0 ≤ x ∧ x ≤ 4095) ∧ (0 ≤ y ∧ y ≤ 4095))) := by
  unfold R_M_isAt RB_M_isAt_26 RB_M_isAt_27
  rw [R_in, b1_some, bI_if]
  by_cases h1 : 0 ≤ x ∧ x ≤ 4095
  · rw [if_pos h1, R_in, b1_some, bI_if]
    by_cases h2 : 0 ≤ y ∧ y ≤ 4095
    · rw [if_pos h2, bI_pos ⟨h1, h2⟩]
      exact gd1
    · rw [if_neg h2, bI_neg (fun h => h2 h.2)]
      exact gd0
  · rw [if_neg h1, bI_neg (fun h => h1 h.1)]
    exact gd0
theorem S_arePosition (x y : Int32) (μ : Mem) : S_P_arePosition x y μ = some (bI ((0 ≤ x ∧ x ≤ 4095) ∧ (0 ≤ y ∧ y ≤ 4095))) := by
  unfold S_P_arePosition B_P_arePosition_26 B_P_arePosition_27
  by_cases h1 : x < 0
  · rw [if_pos h1, bI_neg (fun h => absurd h1 (i32_nlt.mpr h.1.1))]
    exact gd0
  · rw [if_neg h1]
    by_cases h2 : 4095 < x
    · rw [if_pos h2, bI_neg (fun h => absurd h2 (i32_nlt.mpr h.1.2))]
      exact gd0
    · rw [if_neg h2]
      by_cases h3 : y < 0
      · rw [if_pos h3, bI_neg (fun h => absurd h3 (i32_nlt.mpr h.2.1))]
        exact gd0
      · rw [if_neg h3]
        by_cases h4 : 4095 < y
        · rw [if_pos h4, bI_neg (fun h => absurd h4 (i32_nlt.mpr h.2.2))]
          exact gd0
        · rw [if_neg h4, bI_pos ⟨⟨i32_nlt.mp h1, i32_nlt.mp h2⟩, i32_nlt.mp h3, i32_nlt.mp h4⟩]
          exact gd1
theorem R_isSpan (a b : Int32) : R_M_isSpan a b = some (bI ((0 ≤ a ∧ a ≤ 9999) ∧ (0 ≤ b ∧ b ≤ 9999) ∧ a ≤ b)) := by
  unfold R_M_isSpan RB_M_isSpan_23 RB_M_isSpan_24
  rw [R_isDay, b1_some, bI_if]
  by_cases h1 : 0 ≤ a ∧ a ≤ 9999
  · rw [if_pos h1, R_isDay, b1_some, bI_if]
    by_cases h2 : 0 ≤ b ∧ b ≤ 9999
    · rw [if_pos h2]
      by_cases h3 : b < a
      · rw [if_pos h3, bI_neg (fun h => absurd h3 (i32_nlt.mpr h.2.2))]
        exact gd0
      · rw [if_neg h3, bI_pos ⟨h1, h2, i32_nlt.mp h3⟩]
        exact gd1
    · rw [if_neg h2, bI_neg (fun h => h2 h.2.1)]
      exact gd0
  · rw [if_neg h1, bI_neg (fun h => h1 h.1)]
    exact gd0
theorem S_areSpan (a b : Int32) (μ : Mem) : S_P_areSpan a b μ = some (bI ((0 ≤ a ∧ a ≤ 9999) ∧ (0 ≤ b ∧ b ≤ 9999) ∧ a ≤ b)) := by
  unfold S_P_areSpan B_P_areSpan_23 B_P_areSpan_24
  rw [S_isDay, b1_some, bI_if]
  by_cases h1 : 0 ≤ a ∧ a ≤ 9999
  · rw [if_pos h1, S_isDay, b1_some, bI_if]
    by_cases h2 : 0 ≤ b ∧ b ≤ 9999
    · rw [if_pos h2]
      by_cases h3 : b < a
      · rw [if_pos h3, bI_neg (fun h => absurd h3 (i32_nlt.mpr h.2.2))]
        exact gd0
      · rw [if_neg h3, bI_pos ⟨h1, h2, i32_nlt.mp h3⟩]
        exact gd1
    · rw [if_neg h2, bI_neg (fun h => h2 h.2.1)]
      exact gd0
  · rw [if_neg h1, bI_neg (fun h => h1 h.1)]
    exact gd0
/-- how many places there are -/
theorem R_isPlace {ρ : RS} {n : Nat} (hn : ri ρ 1 = i32 n) (h30 : n ≤ 30) (id : Int32) : R_M_isPlace id ρ = some (bI (0 ≤ id ∧ id < i32 n)) := by
  unfold R_M_isPlace
  rw [R_in, b1_some, gd_bI, hn]
  congr 1
  have e : (id ≤ i32 n - 1) ↔ id < i32 n := by
    rw [Int32.le_iff_toInt_le, Int32.lt_iff_toInt_lt, i32_int (by omega), Int32.toInt_sub, i32_int (by omega)]
    have : ((n : Int) - (1 : Int32).toInt).bmod (2 ^ 32) = (n : Int) - 1 := by
      rw [show (1 : Int32).toInt = 1 from rfl]
      exact Int.bmod_eq_of_le (by omega) (by omega)
    rw [this]
    omega
  unfold bI
  simp only [e]
theorem Ma_min_eq (a b : Int32) (μ : Mem) : S_Ma_min a b μ = some (if b < a then b else a) := by
  unfold S_Ma_min B_Ma_min_10
  split <;> rfl
theorem Ma_max_eq (a b : Int32) (μ : Mem) : S_Ma_max a b μ = some (if a < b then b else a) := by
  unfold S_Ma_max B_Ma_max_10
  split <;> rfl
