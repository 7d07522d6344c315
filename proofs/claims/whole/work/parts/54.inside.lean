/-! is a point inside a ring -/
abbrev boxQ (xi xj yi yj x y : Int32) : Prop := (¬ x < (if xj < xi then xj else xi)) ∧ (¬ (if xi < xj then xj else xi) < x) ∧ (¬ y < (if yj < yi then yj else yi)) ∧ ¬ (if yi < yj then yj else yi) < y
def turnF (xi yi xj yj x y : Int32) : Int32 := ((xi - x) * (yj - yi)) + ((y - yi) * (xj - xi))
def gtI (a b : Int32) : Int32 := if a ≤ b then 0 else 1
theorem Co_isInBox_eq {μ : Mem} {a n : Nat} {X Y : Nat → Int32} (h : CO μ a n X Y) {i j : Nat} (hi : i < n) (hj : j < n) (x y : Int32) : S_Co_isInBox (some a) (i32 i) (i32 j) x y μ = some (bI (boxQ (X i) (X j) (Y i) (Y j) x y)) := by
  obtain ⟨ax, ay, g0, g1, g2, g3, g4, g5, h8⟩ := h.v
  unfold S_Co_isInBox B_Co_isInBox_82 B_Co_isInBox_83
  simp only [b1_some, g1, g2, g4 i hi, g5 i hi, g4 j hj, g5 j hj, Ma_min_eq, Ma_max_eq]
  by_cases h1 : x < (if X j < X i then X j else X i)
  · rw [if_pos h1, bI_neg (fun q => q.1 h1)]
    exact gd0
  · rw [if_neg h1]
    by_cases h2 : (if X i < X j then X j else X i) < x
    · rw [if_pos h2, bI_neg (fun q => q.2.1 h2)]
      exact gd0
    · rw [if_neg h2]
      by_cases h3 : y < (if Y j < Y i then Y j else Y i)
      · rw [if_pos h3, bI_neg (fun q => q.2.2.1 h3)]
        exact gd0
      · rw [if_neg h3]
        by_cases h4 : (if Y i < Y j then Y j else Y i) < y
        · rw [if_pos h4, bI_neg (fun q => q.2.2.2 h4)]
          exact gd0
        · rw [if_neg h4, bI_pos ⟨h1, h2, h3, h4⟩]
          exact gd1
/-- the next parity: side (xi, yi) to (xj, yj) -/
def flipF (xi yi xj yj x y odd : Int32) : Int32 := if gtI yi y = gtI yj y then odd else if gtI (turnF xi yi xj yj x y) 0 = gtI yj yi then (if odd = 0 then 1 else 0) else odd
def insF (n : Nat) (X Y : Nat → Int32) (x y : Int32) : Nat → Nat → Int32 → Int32
  | 0, _, odd => odd
  | m + 1, k, odd => if turnF (X k) (Y k) (X (nxt n k)) (Y (nxt n k)) x y = 0 ∧ boxQ (X k) (X (nxt n k)) (Y k) (Y (nxt n k)) x y then 1 else insF n X Y x y m (k + 1) (flipF (X k) (Y k) (X (nxt n k)) (Y (nxt n k)) x y odd)
theorem insF_succ (n : Nat) (X Y : Nat → Int32) (x y : Int32) (m k : Nat) (odd : Int32) : insF n X Y x y (m + 1) k odd = if turnF (X k) (Y k) (X (nxt n k)) (Y (nxt n k)) x y = 0 ∧ boxQ (X k) (X (nxt n k)) (Y k) (Y (nxt n k)) x y then 1 else insF n X Y x y m (k + 1) (flipF (X k) (Y k) (X (nxt n k)) (Y (nxt n k)) x y odd) := rfl
theorem flip_ok (xi yi xj yj x y odd : Int32) (h : okZ odd = true) : okZ (flipF xi yi xj yj x y odd) = true := by
  unfold flipF
  split
  · exact h
  · split
    · split <;> decide
    · exact h
theorem Co_inside {μ : Mem} {a n : Nat} {X Y : Nat → Int32} (h : CO μ a n X Y) (x y : Int32) (m : Nat) : ∀ (k : Nat) (odd : Int32) (fuel : Nat), okZ odd = true → k + m = n → m < fuel → B_Co_hasInside_5 μ fuel (some a) x y odd (i32 k) = some (insF n X Y x y m k odd) := by
  obtain ⟨ax, ay, g0, g1, g2, g3, g4, g5, h8⟩ := h.v
  induction m with
  | zero =>
    intro k odd fuel ho hk hf
    cases fuel with
    | zero => omega
    | succ fuel =>
      show b1 (gI μ (some a) 2 0) _ = _
      rw [g0, b1_some, if_pos ((i32_le (by omega) (by omega)).mpr (by omega))]
      exact gd_no (fun q => q ho) _
  | succ m ih =>
    intro k odd fuel ho hk hf
    cases fuel with
    | zero => omega
    | succ fuel =>
      have hj := nxt_lt (show k < n by omega)
      have hk1 : k < n := by omega
      show b1 (gI μ (some a) 2 0) _ = _
      rw [g0, b1_some, if_neg (fun e => by have := (i32_le (by omega) (by omega)).mp e; omega), g3, b1_some, Co_following_eq h hk1]
      simp only [b1_some, g1, g2, g3, g4 k hk1, g5 k hk1, g4 _ hj, g5 _ hj, b0_eq, Co_isInBox_eq h hk1 hj]
      have rest : B_Co_hasInside_95 μ (fun v0 v1 v2 v3 v4 => B_Co_hasInside_5 μ fuel v0 v1 v2 v3 v4) (some a) x y odd (i32 k) (i32 (nxt n k)) (turnF (X k) (Y k) (X (nxt n k)) (Y (nxt n k)) x y) = some (insF n X Y x y m (k + 1) (flipF (X k) (Y k) (X (nxt n k)) (Y (nxt n k)) x y odd)) := by
        rw [← ih (k + 1) _ fuel (flip_ok (X k) (Y k) (X (nxt n k)) (Y (nxt n k)) x y odd ho) (by omega) (by omega), ← i32_succ]
        unfold B_Co_hasInside_95 B_Co_hasInside_117 B_Co_hasInside_135 B_Co_hasInside_151 B_Co_hasInside_164 B_Co_hasInside_178 B_Co_hasInside_179
        simp only [b1_some, g2, g5 k hk1, g5 _ hj]
        unfold flipF gtI
        generalize turnF (X k) (Y k) (X (nxt n k)) (Y (nxt n k)) x y = T
        by_cases c1 : Y (nxt n k) ≤ Y k <;> by_cases c2 : Y k ≤ y <;> by_cases c3 : Y (nxt n k) ≤ y <;> by_cases c4 : T ≤ 0 <;> by_cases c5 : odd = 0 <;> simp [c1, c2, c3, c4, c5]
      show (if turnF (X k) (Y k) (X (nxt n k)) (Y (nxt n k)) x y = 0 then _ else _) = some (if _ then _ else _)
      by_cases ht : turnF (X k) (Y k) (X (nxt n k)) (Y (nxt n k)) x y = 0
      · rw [if_pos ht, bI_if]
        by_cases hb : boxQ (X k) (X (nxt n k)) (Y k) (Y (nxt n k)) x y
        · rw [if_pos hb, if_pos ⟨ht, hb⟩]
          exact gd1
        · rw [if_neg hb, if_neg (fun q => hb q.2)]
          exact rest
      · rw [if_neg ht, if_neg (fun q => ht q.1)]
        exact rest
theorem Co_hasInside_eq {μ : Mem} {a n : Nat} {X Y : Nat → Int32} (h : CO μ a n X Y) (x y : Int32) : S_Co_hasInside (some a) x y μ = some (insF n X Y x y n 0 0) := by
  have h8 : n ≤ 8 := by obtain ⟨ax, ay, -, -, -, -, -, -, h8⟩ := h.v; exact h8
  exact Co_inside h x y n 0 0 fu (by decide) (by omega) (by unfold fu; omega)
