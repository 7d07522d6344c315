/-! condition -/
def aCq (N : Nat) (k a b c : Int32) : Prop := k = 0 ∨ k = 1 ∨ k = 3 ∨ (k = 2 ∧ 0 ≤ a ∧ a ≤ 2) ∨ (k = 4 ∧ 0 ≤ a ∧ a ≤ 7) ∨ ((k = 5 ∨ k = 6) ∧ 0 ≤ a ∧ a < i32 N) ∨ (k = 7 ∧ ((0 ≤ a ∧ a ≤ 4095) ∧ 0 ≤ b ∧ b ≤ 4095) ∧ 0 ≤ c ∧ c ≤ 10000) ∨ (k = 8 ∧ 0 ≤ a ∧ a ≤ 10000)
theorem k_cases (k : Int32) : k = 0 ∨ k = 1 ∨ k = 2 ∨ k = 3 ∨ k = 4 ∨ k = 5 ∨ k = 6 ∨ k = 7 ∨ k = 8 ∨ (¬ (0 ≤ k ∧ k ≤ 8) ∧ k ≠ 0 ∧ k ≠ 1 ∧ k ≠ 2 ∧ k ≠ 3 ∧ k ≠ 4 ∧ k ≠ 5 ∧ k ≠ 6 ∧ k ≠ 7 ∧ k ≠ 8) := by
  by_cases h : 0 ≤ k ∧ k ≤ 8
  · obtain ⟨j, rfl, hj⟩ := i32_pos (i32_nlt.mpr h.1)
    have h8 : j ≤ 8 := (i32_le (b := 8) hj (by decide)).mp h.2
    have : j = 0 ∨ j = 1 ∨ j = 2 ∨ j = 3 ∨ j = 4 ∨ j = 5 ∨ j = 6 ∨ j = 7 ∨ j = 8 := by omega
    rcases this with h | h | h | h | h | h | h | h | h <;> subst h <;> decide
  · have hn : ∀ j : Int32, 0 ≤ j ∧ j ≤ 8 → k ≠ j := fun j hj q => h (by rw [q]; exact hj)
    exact .inr (.inr (.inr (.inr (.inr (.inr (.inr (.inr (.inr ⟨h, hn 0 (by decide), hn 1 (by decide), hn 2 (by decide), hn 3 (by decide), hn 4 (by decide), hn 5 (by decide), hn 6 (by decide), hn 7 (by decide), hn 8 (by decide)⟩))))))))
theorem S_are_eq {ro : Nat → Nat} {μ : Mem} {c lPl aX aY nc rt aT nt lC aW hH eE rR an N : Nat} {ρ : RS} {pl : Nat → Nat} (h1 : Is ro μ c 2 (PFc lPl aX aY nc rt aT nt lC aW hH eE rR an)) (h2 : IPs ro μ ρ pl N lPl) (k x y z : Int32) : ∃ r : Int32, S_P_areCondition (some c) k x y z μ = some r ∧ (r = 0 ↔ ¬ aCq N k x y z) := by
  have z1 : ∀ p : Prop, ∀ [Decidable p], (bI p = 0 ↔ ¬ p) := fun p _ => bI_zero
  have hpl : B_P_areCondition_74 μ (some c) x = some (bI (0 ≤ x ∧ x < i32 N)) := by
    unfold B_P_areCondition_74 B_P_areCondition_87
    rw [rc_at h1.1, b1_some, P_placeOf_eq h1 h2, b1_some]
    by_cases hx : 0 ≤ x ∧ x < i32 N
    · rw [if_pos hx, if_neg (some_ne _), bI_pos hx]; exact gd1
    · rw [if_neg hx, if_pos rfl, bI_neg hx]; exact gd0
  rcases k_cases k with h | h | h | h | h | h | h | h | h | ⟨h, k0, k1, k2, k3, k4, k5, k6, k7, k8⟩
  · subst h; exact ⟨1, rfl, by simp [aCq]⟩
  · subst h; exact ⟨1, rfl, by simp [aCq]⟩
  · subst h
    refine ⟨bI (0 ≤ x ∧ x ≤ 2), ?_, ?_⟩
    · show (if x < 0 then B_P_areCondition_67 μ else if 2 < x then B_P_areCondition_67 μ else B_P_areCondition_68 μ 1) = _
      by_cases a1 : x < 0
      · rw [if_pos a1, bI_neg (fun q => (i32_nlt.mpr q.1) a1)]; exact gd0
      · by_cases a2 : 2 < x
        · rw [if_neg a1, if_pos a2, bI_neg (fun q => (i32_nlt.mpr q.2) a2)]; exact gd0
        · rw [if_neg a1, if_neg a2, bI_pos ⟨i32_nlt.mp a1, i32_nlt.mp a2⟩]; exact gd1
    · rw [z1]; simp [aCq]
  · subst h; exact ⟨1, rfl, by simp [aCq]⟩
  · subst h
    refine ⟨bI (0 ≤ x ∧ x ≤ 7), ?_, ?_⟩
    · show b1 (S_P_isKind x μ) (fun x70 => gd (¬ okZ x70 = true) (some x70)) = _
      rw [S_isKind, b1_some]; exact gd_bI _
    · rw [z1]; simp [aCq]
  · subst h
    refine ⟨bI (0 ≤ x ∧ x < i32 N), hpl, ?_⟩
    rw [z1]; simp [aCq]
  · subst h
    refine ⟨bI (0 ≤ x ∧ x < i32 N), hpl, ?_⟩
    rw [z1]; simp [aCq]
  · subst h
    refine ⟨bI (((0 ≤ x ∧ x ≤ 4095) ∧ 0 ≤ y ∧ y ≤ 4095) ∧ 0 ≤ z ∧ z ≤ 10000), ?_, ?_⟩
    · show b1 (S_P_arePosition x y μ) (fun x90 => if x90 = 0 then B_P_areCondition_108 μ else b1 (S_P_isDistance z μ) (fun x98 => if x98 = 0 then B_P_areCondition_108 μ else B_P_areCondition_109 μ 1)) = _
      rw [S_arePosition, b1_some, S_isDistance]
      by_cases a1 : (0 ≤ x ∧ x ≤ 4095) ∧ 0 ≤ y ∧ y ≤ 4095
      · by_cases a2 : 0 ≤ z ∧ z ≤ 10000
        · rw [if_neg (by rw [bI_pos a1]; decide), b1_some, if_neg (by rw [bI_pos a2]; decide), bI_pos ⟨a1, a2⟩]; exact gd1
        · rw [if_neg (by rw [bI_pos a1]; decide), b1_some, if_pos (bI_neg a2), bI_neg (fun q => a2 q.2)]; exact gd0
      · rw [if_pos (bI_neg a1), bI_neg (fun q => a1 q.1)]; exact gd0
    · rw [z1]; simp [aCq]
  · subst h
    refine ⟨bI (0 ≤ x ∧ x ≤ 10000), ?_, ?_⟩
    · show b1 (S_P_isDistance x μ) (fun x111 => gd (¬ okZ x111 = true) (some x111)) = _
      rw [S_isDistance, b1_some]; exact gd_bI _
    · rw [z1]; simp [aCq]
  · refine ⟨0, ?_, ?_⟩
    · unfold S_P_areCondition
      rw [if_neg k0, if_neg k1, if_neg k2, if_neg k3, if_neg k4, if_neg k5, if_neg k6, if_neg k7, if_neg k8]
      exact gd0
    · simp [aCq, k0, k1, k2, k3, k4, k5, k6, k7, k8]
theorem R_cond_eq {ρ : RS} {N nt : Nat} (g1 : ri ρ 1 = i32 N) (g2 : N ≤ 30) (t1 : ri ρ 21 = i32 nt) (t2 : nt ≤ 10) (k x y z : Int32) : ∃ r : Int32, R_M_condition k x y z ρ = RB_M_condition_136 k x y z r ρ ∧ (r = 0 ↔ ¬ (aCq N k x y z ∧ (3 < k ∨ nt ≠ 0))) := by
  have z1 : ∀ p : Prop, ∀ [Decidable p], (bI p = 0 ↔ ¬ p) := fun p _ => bI_zero
  have ht : (i32 nt ≤ 0) ↔ nt = 0 := by
    rw [show (0 : Int32) = i32 0 from rfl, i32_le (by omega) (by decide)]
    omega
  have hlow : ∀ k : Int32, 0 ≤ k ∧ k ≤ 8 → ¬ 3 < k → R_M_condition k x y z ρ = if nt = 0 then RB_M_condition_26 k x y z ρ else RB_M_condition_22 k x y z ρ := by
    intro k hk h3
    unfold R_M_condition
    rw [R_in, b1_some, if_neg (by rw [bI_pos hk]; decide), if_neg h3, t1]
    by_cases h0 : nt = 0
    · rw [if_pos (ht.mpr h0), if_pos h0]
    · rw [if_neg (fun q => h0 (ht.mp q)), if_neg h0]
  have hhigh : ∀ k : Int32, 0 ≤ k ∧ k ≤ 8 → 3 < k → R_M_condition k x y z ρ = RB_M_condition_22 k x y z ρ := by
    intro k hk h3
    unfold R_M_condition
    rw [R_in, b1_some, if_neg (by rw [bI_pos hk]; decide), if_pos h3]
  have three : ∀ k : Int32, (k = 0 ∨ k = 1 ∨ k = 3) → ∃ r : Int32, R_M_condition k x y z ρ = RB_M_condition_136 k x y z r ρ ∧ (r = 0 ↔ ¬ (aCq N k x y z ∧ (3 < k ∨ nt ≠ 0))) := by
    intro k hk
    refine ⟨bI (nt ≠ 0), ?_, ?_⟩
    · by_cases h0 : nt = 0
      · rw [bI_neg (fun q => q h0)]
        rcases hk with h | h | h <;> subst h <;> rw [hlow _ (by decide) (by decide), if_pos h0] <;> rfl
      · rw [bI_pos h0]
        rcases hk with h | h | h <;> subst h <;> rw [hlow _ (by decide) (by decide), if_neg h0] <;> rfl
    · rw [z1]
      rcases hk with h | h | h <;> subst h <;> simp [aCq, show ¬ ((3 : Int32) < 0) by decide, show ¬ ((3 : Int32) < 1) by decide, show ¬ ((3 : Int32) < 3) by decide]
  rcases k_cases k with h | h | h | h | h | h | h | h | h | ⟨h, k0, k1, k2, k3, k4, k5, k6, k7, k8⟩
  · exact three k (.inl h)
  · exact three k (.inr (.inl h))
  · subst h
    refine ⟨bI (nt ≠ 0 ∧ 0 ≤ x ∧ x ≤ 2), ?_, ?_⟩
    · rw [hlow _ (by decide) (by decide)]
      by_cases h0 : nt = 0
      · rw [if_pos h0, bI_neg (fun q => q.1 h0)]; rfl
      · rw [if_neg h0]
        show b1 (R_M_in x 0 2) (fun x42 => if x42 = 0 then RB_M_condition_52 2 x y z ρ else RB_M_condition_53 2 x y z 1 ρ) = _
        rw [R_in, b1_some]
        by_cases hx : 0 ≤ x ∧ x ≤ 2
        · rw [if_neg (by rw [bI_pos hx]; decide), bI_pos ⟨h0, hx⟩]; rfl
        · rw [if_pos (bI_neg hx), bI_neg (fun q => hx q.2)]; rfl
    · rw [z1]; simp [aCq, show ¬ ((3 : Int32) < 2) by decide, and_comm]
  · exact three k (.inr (.inr h))
  · subst h
    refine ⟨bI (0 ≤ x ∧ x ≤ 7), ?_, ?_⟩
    · rw [hhigh _ (by decide) (by decide)]
      show b1 (R_M_in x 0 7) (fun x64 => RB_M_condition_69 4 x y z x64 ρ) = _
      rw [R_in, b1_some]; rfl
    · rw [z1]; simp [aCq, show ((3 : Int32) < 4) by decide]
  · subst h
    refine ⟨bI (0 ≤ x ∧ x < i32 N), ?_, ?_⟩
    · rw [hhigh _ (by decide) (by decide)]
      show b1 (R_M_isPlace x ρ) (fun x82 => RB_M_condition_87 5 x y z x82 ρ) = _
      rw [R_isPlace g1 g2, b1_some]; rfl
    · rw [z1]; simp [aCq, show ((3 : Int32) < 5) by decide]
  · subst h
    refine ⟨bI (0 ≤ x ∧ x < i32 N), ?_, ?_⟩
    · rw [hhigh _ (by decide) (by decide)]
      show b1 (R_M_isPlace x ρ) (fun x82 => RB_M_condition_87 6 x y z x82 ρ) = _
      rw [R_isPlace g1 g2, b1_some]; rfl
    · rw [z1]; simp [aCq, show ((3 : Int32) < 6) by decide]
  · subst h
    refine ⟨bI (((0 ≤ x ∧ x ≤ 4095) ∧ 0 ≤ y ∧ y ≤ 4095) ∧ 0 ≤ z ∧ z ≤ 10000), ?_, ?_⟩
    · rw [hhigh _ (by decide) (by decide)]
      show b1 (R_M_isAt x y) (fun x95 => if x95 = 0 then RB_M_condition_117 7 x y z ρ else b1 (R_M_in z 0 10000) (fun x107 => if x107 = 0 then RB_M_condition_117 7 x y z ρ else RB_M_condition_118 7 x y z 1 ρ)) = _
      rw [R_isAt, b1_some, R_in]
      by_cases a1 : (0 ≤ x ∧ x ≤ 4095) ∧ 0 ≤ y ∧ y ≤ 4095
      · by_cases a2 : 0 ≤ z ∧ z ≤ 10000
        · rw [if_neg (by rw [bI_pos a1]; decide), b1_some, if_neg (by rw [bI_pos a2]; decide), bI_pos ⟨a1, a2⟩]; rfl
        · rw [if_neg (by rw [bI_pos a1]; decide), b1_some, if_pos (bI_neg a2), bI_neg (fun q => a2 q.2)]; rfl
      · rw [if_pos (bI_neg a1), bI_neg (fun q => a1 q.1)]; rfl
    · rw [z1]; simp [aCq, show ((3 : Int32) < 7) by decide]
  · subst h
    refine ⟨bI (0 ≤ x ∧ x ≤ 10000), ?_, ?_⟩
    · rw [hhigh _ (by decide) (by decide)]
      show b1 (R_M_in x 0 10000) (fun x131 => RB_M_condition_136 8 x y z x131 ρ) = _
      rw [R_in, b1_some]
    · rw [z1]; simp [aCq, show ((3 : Int32) < 8) by decide]
  · refine ⟨0, ?_, ?_⟩
    · unfold R_M_condition
      rw [R_in, b1_some, if_pos (bI_neg h)]
      unfold RB_M_condition_26 RB_M_condition_27 RB_M_condition_55 RB_M_condition_69 RB_M_condition_87 RB_M_condition_120
      rw [if_neg k2, if_neg k4, if_neg k5, if_neg k6, if_neg k7, if_neg k8]
    · simp [aCq, k0, k1, k2, k3, k4, k5, k6, k7, k8]
