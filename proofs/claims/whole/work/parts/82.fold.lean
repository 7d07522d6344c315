/-! folding what is typed -/
def jn (x y : Int32) : Int32 := if x = 112 ∧ y = 104 then 102 else if (x = 99 ∧ y = 107) ∨ (x = 113 ∧ y = 117) then 107 else if x = 116 ∧ y = 104 then 116 else 0
theorem S_joined (x y : Int32) (μ : Mem) : S_Wo_joinedLetter x y μ = some (jn x y) := by
  have k1 : gd (¬ okC 102 = true) (some (102 : Int32)) = some 102 := by decide
  have k2 : gd (¬ okC 107 = true) (some (107 : Int32)) = some 107 := by decide
  have k3 : gd (¬ okC 116 = true) (some (116 : Int32)) = some 116 := by decide
  have k4 : gd (¬ okC 0 = true) (some (0 : Int32)) = some 0 := by decide
  unfold S_Wo_joinedLetter B_Wo_joinedLetter_15 B_Wo_joinedLetter_27 B_Wo_joinedLetter_39 B_Wo_joinedLetter_42 B_Wo_joinedLetter_59 B_Wo_joinedLetter_60 jn
  rw [k1, k2, k3, k4]
  grind
theorem R_jn (x y : Int32) (ρ : RS) : (if x = 112 then if y = 104 then some (102 : Int32) else RB_M_pairAt_29 ρ x y else RB_M_pairAt_29 ρ x y) = some (jn x y) := by
  unfold RB_M_pairAt_29 RB_M_pairAt_41 RB_M_pairAt_53 RB_M_pairAt_56 RB_M_pairAt_73 RB_M_pairAt_74 jn
  grind
theorem jn_zero (x : Int32) : jn x 0 = 0 := by
  unfold jn
  rw [if_neg (fun q => absurd q.2 (by decide)), if_neg (fun q => q.elim (fun q => absurd q.2 (by decide)) (fun q => absurd q.2 (by decide))), if_neg (fun q => absurd q.2 (by decide))]
theorem jn_cases (x y : Int32) : jn x y = 102 ∨ jn x y = 107 ∨ jn x y = 116 ∨ jn x y = 0 := by
  unfold jn
  split
  · exact .inl rfl
  · split
    · exact .inr (.inl rfl)
    · split
      · exact .inr (.inr (.inl rfl))
      · exact .inr (.inr (.inr rfl))
def prA (t : Nat → Int32) (n k : Nat) : Int32 := if k + 1 < n then jn (t k) (t (k + 1)) else 0
def skF (t : Nat → Int32) (c : Int32) : Nat → Nat → Nat
  | 0, k => k
  | m + 1, k => if t k = c then skF t c m (k + 1) else k
theorem skF_ge (t : Nat → Int32) (c : Int32) (m : Nat) : ∀ k, k ≤ skF t c m k ∧ skF t c m k ≤ k + m := by
  induction m with
  | zero => intro k; exact ⟨Nat.le_refl _, Nat.le_refl _⟩
  | succ m ih =>
    intro k
    have := ih (k + 1)
    show k ≤ (if t k = c then skF t c m (k + 1) else k) ∧ (if t k = c then skF t c m (k + 1) else k) ≤ _
    split <;> omega
def foC (t : Nat → Int32) (n k : Nat) : Int32 := if prA t n k = 0 then t k else prA t n k
def foN (t : Nat → Int32) (n k : Nat) : Nat := if prA t n k = 0 then skF t (t k) (n - (k + 1)) (k + 1) else k + 2
def foF (t : Nat → Int32) (n : Nat) : Nat → Nat → Nat → (Nat → Int32) → Nat × (Nat → Int32)
  | 0, _, made, w => (made, w)
  | m + 1, k, made, w => if n ≤ k then (made, w) else if made ≠ 0 ∧ w (made - 1) = foC t n k then foF t n m (foN t n k) made w else foF t n m (foN t n k) (made + 1) (upd w made (foC t n k))
theorem foN_gt (t : Nat → Int32) {n k : Nat} (h : k < n) : k < foN t n k ∧ foN t n k ≤ n := by
  unfold foN
  split
  · have := skF_ge t (t k) (n - (k + 1)) (k + 1)
    omega
  · rename_i hq
    have : k + 1 < n := by
      rcases Nat.lt_or_ge (k + 1) n with h1 | h1
      · exact h1
      · exact absurd (if_neg (by omega)) hq
    omega
theorem foC_ltr {t : Nat → Int32} {n k : Nat} (ht : ltr n t) (h : k < n) : 97 ≤ (foC t n k).toInt ∧ (foC t n k).toInt ≤ 122 := by
  unfold foC
  split
  · exact ht.2 k h
  · rename_i hq
    unfold prA at hq ⊢
    split
    · rename_i h2
      rw [if_pos h2] at hq
      rcases jn_cases (t k) (t (k + 1)) with q | q | q | q
      · rw [q]; decide
      · rw [q]; decide
      · rw [q]; decide
      · exact absurd q hq
    · rename_i h2
      rw [if_neg h2] at hq
      exact absurd rfl hq
/-- what lies beyond what is made doesn't matter -/
theorem fo_ind (t : Nat → Int32) (n m : Nat) : ∀ (k made : Nat) (w u : Nat → Int32), (∀ j, j < made → w j = u j) → (foF t n m k made w).1 = (foF t n m k made u).1 ∧ ∀ j, j < (foF t n m k made w).1 → (foF t n m k made w).2 j = (foF t n m k made u).2 j := by
  induction m with
  | zero => intro k made w u h; exact ⟨rfl, h⟩
  | succ m ih =>
    intro k made w u h
    unfold foF
    by_cases h1 : n ≤ k
    · rw [if_pos h1, if_pos h1]
      exact ⟨rfl, h⟩
    · rw [if_neg h1, if_neg h1]
      by_cases h2 : made ≠ 0 ∧ w (made - 1) = foC t n k
      · have h3 : made ≠ 0 ∧ u (made - 1) = foC t n k := ⟨h2.1, (h (made - 1) (by omega)).symm.trans h2.2⟩
        rw [if_pos h2, if_pos h3]
        exact ih _ _ _ _ h
      · have h3 : ¬ (made ≠ 0 ∧ u (made - 1) = foC t n k) := fun q => h2 ⟨q.1, (h (made - 1) (by omega)).trans q.2⟩
        rw [if_neg h2, if_neg h3]
        refine ih _ _ _ _ (fun j hj => ?_)
        by_cases hjm : j = made
        · rw [hjm, upd_at, upd_at]
        · rw [upd_ne _ _ hjm, upd_ne _ _ hjm]
          exact h j (by omega)
theorem fo_bd {t : Nat → Int32} {n : Nat} (ht : ltr n t) (m : Nat) : ∀ (k made : Nat) (w : Nat → Int32), made ≤ k → k ≤ n → ltr made w → (foF t n m k made w).1 ≤ n ∧ made ≤ (foF t n m k made w).1 ∧ ltr (foF t n m k made w).1 (foF t n m k made w).2 ∧ (k < n → 0 < m → 1 ≤ (foF t n m k made w).1) := by
  have hn := ht.1
  induction m with
  | zero => intro k made w h1 h2 h3; exact ⟨by show made ≤ n; omega, Nat.le_refl _, h3, fun _ q => absurd q (by decide)⟩
  | succ m ih =>
    intro k made w h1 h2 h3
    unfold foF
    by_cases h4 : n ≤ k
    · rw [if_pos h4]
      exact ⟨by show made ≤ n; omega, Nat.le_refl _, h3, fun q => by omega⟩
    · rw [if_neg h4]
      have hg := foN_gt t (show k < n by omega)
      by_cases h5 : made ≠ 0 ∧ w (made - 1) = foC t n k
      · rw [if_pos h5]
        obtain ⟨i1, i2, i3, i4⟩ := ih (foN t n k) made w (by omega) hg.2 h3
        exact ⟨i1, i2, i3, fun _ _ => by omega⟩
      · rw [if_neg h5]
        obtain ⟨i1, i2, i3, i4⟩ := ih (foN t n k) (made + 1) (upd w made (foC t n k)) (by omega) hg.2 ⟨by omega, fun j hj => by
          by_cases hjm : j = made
          · rw [hjm, upd_at]
            exact foC_ltr ht (by omega)
          · rw [upd_ne _ _ hjm]
            exact h3.2 j (by omega)⟩
        exact ⟨i1, by omega, i3, fun _ _ => by omega⟩
