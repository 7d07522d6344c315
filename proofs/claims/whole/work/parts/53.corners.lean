/-! rows of corners -/
def CO (μ : Mem) (a n : Nat) (X Y : Nat → Int32) : Prop := ∃ ax ay fx fy, mF μ a = some (.inr (2, [.int (i32 n), .ref ax, .ref ay])) ∧ mF μ ax = some (.inl (0, n, .inl fx)) ∧ mF μ ay = some (.inl (0, n, .inl fy)) ∧ (∀ k, k < n → fx k = X k ∧ fy k = Y k) ∧ n ≤ 8
def CV (μ : Mem) (a n : Nat) (X Y : Nat → Int32) (ax ay : Nat) : Prop := gI μ (some a) 2 0 = some (i32 n) ∧ gR μ (some a) 2 1 = some (some ax) ∧ gR μ (some a) 2 2 = some (some ay) ∧ rc μ (some a) 2 = some () ∧ (∀ k, k < n → aI μ (some ax) 0 (i32 k) = some (X k)) ∧ (∀ k, k < n → aI μ (some ay) 0 (i32 k) = some (Y k)) ∧ n ≤ 8
theorem CO.v {μ : Mem} {a n : Nat} {X Y : Nat → Int32} (h : CO μ a n X Y) : ∃ ax ay, CV μ a n X Y ax ay := by
  obtain ⟨ax, ay, fx, fy, h1, h2, h3, h4, h5⟩ := h
  exact ⟨ax, ay, gI_at h1 rfl, gR_at h1 rfl, gR_at h1 rfl, rc_at h1, fun k hk => by rw [aI_at h2 hk (by omega), (h4 k hk).1], fun k hk => by rw [aI_at h3 hk (by omega), (h4 k hk).2], h5⟩
def nxt (n k : Nat) : Nat := if k + 1 < n then k + 1 else 0
theorem nxt_lt {n k : Nat} (h : k < n) : nxt n k < n := by
  unfold nxt
  split <;> omega
theorem Co_isPoint_eq {μ : Mem} {a n : Nat} {X Y : Nat → Int32} (h : CO μ a n X Y) : S_Co_isPoint (some a) μ = some (bI (n = 1)) := by
  obtain ⟨ax, ay, g0, -, -, -, -, -, h8⟩ := h.v
  unfold S_Co_isPoint B_Co_isPoint_13
  rw [g0, b1_some]
  by_cases hn : n = 1
  · rw [if_pos (by rw [hn]; rfl), bI_pos hn]
    exact gd1
  · rw [if_neg (show ¬ (i32 n = 1) from fun e => hn ((i32_inj (a := n) (b := 1) (by omega) (by omega)).mp e)), bI_neg hn]
    exact gd0
theorem Co_following_eq {μ : Mem} {a n : Nat} {X Y : Nat → Int32} (h : CO μ a n X Y) {k : Nat} (hk : k < n) : S_Co_following (some a) (i32 k) μ = some (i32 (nxt n k)) := by
  obtain ⟨ax, ay, g0, -, -, -, -, -, h8⟩ := h.v
  unfold S_Co_following B_Co_following_17 nxt
  rw [g0, b1_some, i32_succ]
  by_cases hn : k + 1 < n
  · rw [if_neg (fun e => by have := (i32_le (by omega) (by omega)).mp e; omega), if_pos hn]
  · rw [if_pos ((i32_le (by omega) (by omega)).mpr (by omega)), if_neg hn]
    rfl
/-- the doubled surface: m sides from k on -/
def surf (n : Nat) (X Y : Nat → Int32) : Nat → Nat → Int32 → Int32
  | 0, _, s => s
  | m + 1, k, s => surf n X Y m (k + 1) (s + ((X k * Y (nxt n k)) - (X (nxt n k) * Y k)))
theorem Co_surface {μ : Mem} {a n : Nat} {X Y : Nat → Int32} (h : CO μ a n X Y) (m : Nat) : ∀ (k : Nat) (s : Int32) (fuel : Nat), k + m = n → m < fuel → B_Co_doubledSurface_4 μ fuel (some a) s (i32 k) = some (surf n X Y m k s) := by
  obtain ⟨ax, ay, g0, g1, g2, g3, g4, g5, h8⟩ := h.v
  induction m with
  | zero =>
    intro k s fuel hk hf
    cases fuel with
    | zero => omega
    | succ fuel =>
      show b1 (gI μ (some a) 2 0) _ = _
      rw [g0, b1_some, if_pos ((i32_le (by omega) (by omega)).mpr (by omega))]
      rfl
  | succ m ih =>
    intro k s fuel hk hf
    cases fuel with
    | zero => omega
    | succ fuel =>
      have hj := nxt_lt (show k < n by omega)
      show b1 (gI μ (some a) 2 0) _ = _
      rw [g0, b1_some, if_neg (fun e => by have := (i32_le (by omega) (by omega)).mp e; omega), g3, b1_some, Co_following_eq h (by omega)]
      simp only [b1_some, g1, g2, g4 k (by omega), g5 k (by omega), g4 _ hj, g5 _ hj, b0_eq, i32_succ]
      exact ih (k + 1) _ fuel (by omega) (by omega)
theorem Co_isArea_eq {μ : Mem} {a n : Nat} {X Y : Nat → Int32} (h : CO μ a n X Y) : S_Co_isArea (some a) μ = some (bI (3 ≤ n ∧ surf n X Y n 0 0 ≠ 0)) := by
  obtain ⟨ax, ay, g0, g1, g2, g3, g4, g5, h8⟩ := h.v
  unfold S_Co_isArea B_Co_isArea_19 B_Co_isArea_20 S_Co_doubledSurface
  rw [g0, b1_some]
  by_cases hn : 3 ≤ n
  · rw [if_neg (fun e => by have := (i32_lt (a := n) (b := 3) (by omega) (by omega)).mp e; omega), g3, b1_some, show (0 : Int32) = i32 0 from rfl, Co_surface h n 0 _ fu (by omega) (by unfold fu; omega), b1_some]
    by_cases hs : surf n X Y n 0 (i32 0) = i32 0
    · rw [if_pos hs, bI_neg (fun q => q.2 hs)]
      exact gd0
    · rw [if_neg hs, bI_pos ⟨hn, hs⟩]
      exact gd1
  · rw [if_pos (show i32 n < 3 from (i32_lt (a := n) (b := 3) (by omega) (by omega)).mpr (by omega)), bI_neg (fun q => hn q.1)]
    exact gd0
/-- the square of the distance from corner k -/
def sqd (X Y : Nat → Int32) (x y : Int32) (k : Nat) : Int32 := ((x - X k) * (x - X k)) + ((y - Y k) * (y - Y k))
theorem Co_squareFrom_eq {μ : Mem} {a n : Nat} {X Y : Nat → Int32} (h : CO μ a n X Y) {k : Nat} (hk : k < n) (x y : Int32) : S_Co_squareFrom (some a) (i32 k) x y μ = some (sqd X Y x y k) := by
  obtain ⟨ax, ay, g0, g1, g2, g3, g4, g5, h8⟩ := h.v
  unfold S_Co_squareFrom sqd
  simp only [b1_some, g1, g2, g4 k hk, g5 k hk, b0_eq]
def sqm (X Y : Nat → Int32) (x y : Int32) : Nat → Nat → Int32 → Int32
  | 0, _, s => s
  | m + 1, k, s => sqm X Y x y m (k + 1) (if sqd X Y x y k < s then sqd X Y x y k else s)
theorem Co_square {μ : Mem} {a n : Nat} {X Y : Nat → Int32} (h : CO μ a n X Y) (x y : Int32) (m : Nat) : ∀ (k : Nat) (s : Int32) (fuel : Nat), k + m = n → m < fuel → B_Co_squareTo_6 μ fuel (some a) x y s (i32 k) = some (sqm X Y x y m k s) := by
  obtain ⟨ax, ay, g0, g1, g2, g3, g4, g5, h8⟩ := h.v
  induction m with
  | zero =>
    intro k s fuel hk hf
    cases fuel with
    | zero => omega
    | succ fuel =>
      show b1 (gI μ (some a) 2 0) _ = _
      rw [g0, b1_some, if_pos ((i32_le (by omega) (by omega)).mpr (by omega))]
      rfl
  | succ m ih =>
    intro k s fuel hk hf
    cases fuel with
    | zero => omega
    | succ fuel =>
      show b1 (gI μ (some a) 2 0) _ = _
      rw [g0, b1_some, if_neg (fun e => by have := (i32_le (by omega) (by omega)).mp e; omega), g3, b1_some, Co_squareFrom_eq h (by omega)]
      simp only [b1_some, Ma_min_eq, i32_succ]
      exact ih (k + 1) _ fuel (by omega) (by omega)
theorem Co_squareTo_eq {μ : Mem} {a n : Nat} {X Y : Nat → Int32} (h : CO μ a n X Y) (x y : Int32) : S_Co_squareTo (some a) x y μ = some (sqm X Y x y n 0 1073741824) := by
  unfold S_Co_squareTo
  have h8 : n ≤ 8 := by obtain ⟨ax, ay, -, -, -, -, -, -, h8⟩ := h.v; exact h8
  exact Co_square h x y n 0 _ fu (by omega) (by unfold fu; omega)
