/-! a place on a day: is it there, how far is it, its parent, its names -/
theorem shNo_neg {id : Nat} {o : Option Nat} (hid : id < 30) (ho : ∀ k, o = some k → k < 3) : (shNo id o = (-1)) ↔ o = none := by
  cases o with
  | none => simp [shNo]
  | some k =>
    have := ho k rfl
    constructor
    · intro h
      have h1 : (i32 (3 * id + k)).toInt = (-1 : Int32).toInt := by rw [show i32 (3 * id + k) = -1 from h]
      rw [i32_int (by omega), show (-1 : Int32).toInt = -1 from rfl] at h1
      omega
    · intro h
      cases h
theorem Pl_isRemovedOn_eq {μ : Mem} {a sh sd nm lk : Nat} {num kind rem : Int32} (hp : mF μ a = some (.inr (7, PC7 num kind rem sh sd nm lk))) (day : Int32) : S_Pl_isRemovedOn (some a) day μ = some (bI (rem ≤ day)) := by
  unfold S_Pl_isRemovedOn B_Pl_isRemovedOn_13
  rw [gI_at hp (k := 2) rfl, b1_some]
  by_cases h : day < rem
  · rw [if_pos h, bI_neg (i32_nle.mpr h)]
    exact gd0
  · rw [if_neg h, bI_pos (i32_nlt.mp h)]
    exact gd1
theorem Pl_isThere_eq {μ : Mem} {a sh sd nm lk n ad : Nat} {num kind rem : Int32} {co : Nat → Nat} {D : Nat → Int32} (hp : mF μ a = some (.inr (7, PC7 num kind rem sh sd nm lk))) (hl : AL μ sh n co ad) (hd : mF μ sd = some (.inl (0, 3, .inl D))) (h3 : n ≤ 3) (hc : ∀ k, k < n → ∃ fs, mF μ (co k) = some (.inr (2, fs))) (day : Int32) : S_Pl_isThere (some a) day μ = some (bI (onIx D day n 0 none ≠ none ∧ ¬ rem ≤ day)) := by
  unfold S_Pl_isThere B_Pl_isThere_20 B_Pl_isThere_21
  rw [rc_at hp, b1_some, Pl_shapeOn_eq hp hl hd h3 hc, b1_some]
  cases ho : onIx D day n 0 none with
  | none =>
    rw [if_pos (show Option.map co none = none from rfl), bI_neg (fun q => q.1 rfl)]
    exact gd0
  | some k =>
    rw [if_neg (show ¬ (Option.map co (some k) = none) from fun q => by cases q), b1_some, Pl_isRemovedOn_eq hp, b1_some, bI_if]
    by_cases h : rem ≤ day
    · rw [if_pos h, bI_neg (fun q => q.2 h)]
      exact gd0
    · rw [if_neg h, bI_pos ⟨(fun q => by cases q), h⟩]
      exact gd1
theorem R_isThere_eq {ρ : RS} {id n : Nat} {D : Nat → Int32} (hid : id < 30) (hn : ra ρ 4 id = i32 n) (h3 : n ≤ 3) (hD : ∀ k, k < n → ra ρ 5 (3 * id + k) = D k) (day : Int32) : R_M_isThere (i32 id) day ρ = some (bI (onIx D day n 0 none ≠ none ∧ ¬ ra ρ 3 id ≤ day)) := by
  have hlt := onIx_lt D day n 0 none n (by omega) (fun j hj => by cases hj)
  unfold R_M_isThere RB_M_isThere_24 RB_M_isThere_25
  rw [R_shapeOf_eq hid hn h3 hD, b1_some, rgI_at (ρ := ρ) (k := 3) (n := 30) (j := id) hid (by omega), b1_some]
  by_cases ho : onIx D day n 0 none = none
  · rw [if_pos ((shNo_neg hid (fun k hk => by rw [ho] at hk; cases hk)).mpr ho), bI_neg (fun q => q.1 ho)]
    exact gd0
  · rw [if_neg (fun q => ho ((shNo_neg hid (fun k hk => by have := hlt k hk; omega)).mp q))]
    by_cases h : ra ρ 3 id ≤ day
    · rw [if_pos h, bI_neg (fun q => q.2 h)]
      exact gd0
    · rw [if_neg h, bI_pos ⟨ho, h⟩]
      exact gd1
/-! the nearest corner: both sides -/
theorem sqd_bd {X Y : Nat → Int32} {x y : Int32} {k : Nat} (h1 : inB (X k)) (h2 : inB (Y k)) (h3 : inB x) (h4 : inB y) : 0 ≤ (sqd X Y x y k).toInt ∧ (sqd X Y x y k).toInt ≤ 33538050 := by
  unfold inB at *
  unfold sqd
  have e1 := sub_int (a := x) (b := X k) (by omega) (by omega)
  have e2 := sub_int (a := y) (b := Y k) (by omega) (by omega)
  have b1 := mul_bd (a := x.toInt - (X k).toInt) (b := x.toInt - (X k).toInt) (M := 4095) (N := 4095) (by omega) (by omega) (by omega) (by omega)
  have b2 := mul_bd (a := y.toInt - (Y k).toInt) (b := y.toInt - (Y k).toInt) (M := 4095) (N := 4095) (by omega) (by omega) (by omega) (by omega)
  have p1 : 0 ≤ (x.toInt - (X k).toInt) * (x.toInt - (X k).toInt) := by
    rcases Int.le_total 0 (x.toInt - (X k).toInt) with h | h
    · exact Int.mul_nonneg h h
    · exact Int.mul_nonneg_of_nonpos_of_nonpos h h
  have p2 : 0 ≤ (y.toInt - (Y k).toInt) * (y.toInt - (Y k).toInt) := by
    rcases Int.le_total 0 (y.toInt - (Y k).toInt) with h | h
    · exact Int.mul_nonneg h h
    · exact Int.mul_nonneg_of_nonpos_of_nonpos h h
  have m1 := mul_int (a := x - X k) (b := x - X k) (by rw [e1]; omega) (by rw [e1]; omega)
  have m2 := mul_int (a := y - Y k) (b := y - Y k) (by rw [e2]; omega) (by rw [e2]; omega)
  rw [add_int (by rw [m1, m2, e1, e2]; omega) (by rw [m1, m2, e1, e2]; omega), m1, m2, e1, e2]
  omega
theorem sqd_eq (a b x y : Int32) : ((a - x) * (a - x)) + ((b - y) * (b - y)) = ((x - a) * (x - a)) + ((y - b) * (y - b)) := by grind
theorem R_sq {ρ : RS} {s n : Nat} {X Y : Nat → Int32} (hs : s < 90) (hn : ra ρ 6 s = i32 n) (h8 : n ≤ 8) (hX : ∀ k, k < n → ra ρ 7 (8 * s + k) = X k) (hY : ∀ k, k < n → ra ρ 8 (8 * s + k) = Y k) (x y : Int32) (m : Nat) : ∀ (k : Nat) (best : Int32) (fuel : Nat), 0 < k → k + m = n → m < fuel → RB_M_square_14 ρ fuel x y (i32 s) best (i32 k) = some (sqm X Y x y m k best) := by
  have hr := rgI_at (ρ := ρ) (k := 6) (n := 90) (j := s) hs (by omega)
  rw [hn] at hr
  induction m with
  | zero =>
    intro k best fuel h0 hk hf
    cases fuel with
    | zero => omega
    | succ fuel =>
      show b1 (rgI ρ 6 90 (i32 s)) _ = _
      rw [hr, b1_some, if_pos ((i32_le (by omega) (by omega)).mpr (by omega))]
      rfl
  | succ m ih =>
    intro k best fuel h0 hk hf
    cases fuel with
    | zero => omega
    | succ fuel =>
      have r1 := rgI_at (ρ := ρ) (k := 7) (n := 720) (j := 8 * s + k) (by omega) (by omega)
      have r2 := rgI_at (ρ := ρ) (k := 8) (n := 720) (j := 8 * s + k) (by omega) (by omega)
      rw [hX k (by omega), ← i32_8] at r1
      rw [hY k (by omega), ← i32_8] at r2
      show b1 (rgI ρ 6 90 (i32 s)) _ = _
      rw [hr, b1_some, if_neg (fun e => by have := (i32_le (by omega) (by omega)).mp e; omega), r1, b1_some, b0_eq, r2, b1_some, b0_eq, if_neg (show ¬ (i32 k = 0) from fun e => by have := (i32_inj (a := k) (b := 0) (by omega) (by omega)).mp e; omega), sqd_eq (X k) (Y k) x y]
      unfold RB_M_square_82 RB_M_square_95
      rw [b0_eq, sqd_eq (X k) (Y k) x y, i32_succ]
      have es : sqd X Y x y k = ((x - X k) * (x - X k)) + ((y - Y k) * (y - Y k)) := rfl
      rw [← es]
      show _ = some (sqm X Y x y m (k + 1) (if sqd X Y x y k < best then sqd X Y x y k else best))
      by_cases hb : best ≤ sqd X Y x y k
      · rw [if_pos hb, if_neg (i32_nlt.mpr hb)]
        exact ih (k + 1) best fuel (by omega) (by omega) (by omega)
      · rw [if_neg hb, if_pos (i32_nle.mp hb)]
        exact ih (k + 1) _ fuel (by omega) (by omega) (by omega)
theorem R_sq0 {ρ : RS} {s n : Nat} {X Y : Nat → Int32} (hs : s < 90) (hn : ra ρ 6 s = i32 n) (h1 : 1 ≤ n) (h8 : n ≤ 8) (hX : ∀ k, k < n → ra ρ 7 (8 * s + k) = X k) (hY : ∀ k, k < n → ra ρ 8 (8 * s + k) = Y k) (hB : ∀ k, k < n → inB (X k) ∧ inB (Y k)) {x y : Int32} (hx : inB x) (hy : inB y) : RB_M_square_14 ρ fu x y (i32 s) 0 0 = some (sqm X Y x y n 0 1073741824) := by
  have hr := rgI_at (ρ := ρ) (k := 6) (n := 90) (j := s) hs (by omega)
  rw [hn] at hr
  have r1 := rgI_at (ρ := ρ) (k := 7) (n := 720) (j := 8 * s + 0) (by omega) (by omega)
  have r2 := rgI_at (ρ := ρ) (k := 8) (n := 720) (j := 8 * s + 0) (by omega) (by omega)
  rw [hX 0 (by omega), ← i32_8] at r1
  rw [hY 0 (by omega), ← i32_8] at r2
  obtain ⟨m, rfl⟩ : ∃ m, n = m + 1 := ⟨n - 1, by omega⟩
  have bd := sqd_bd (hB 0 (by omega)).1 (hB 0 (by omega)).2 hx hy
  show b1 (rgI ρ 6 90 (i32 s)) _ = _
  rw [hr, b1_some, if_neg (show ¬ (i32 (m + 1) ≤ 0) from fun e => by have := (i32_le (a := m + 1) (b := 0) (by omega) (by omega)).mp e; omega), show (8 : Int32) * i32 s + 0 = 8 * i32 s + i32 0 from rfl, r1, b1_some, b0_eq, r2, b1_some, b0_eq, if_pos rfl]
  unfold RB_M_square_82 RB_M_square_95
  rw [b0_eq, sqd_eq (X 0) (Y 0) x y, show (0 : Int32) + 1 = i32 1 from rfl]
  have es : sqd X Y x y 0 = ((x - X 0) * (x - X 0)) + ((y - Y 0) * (y - Y 0)) := rfl
  rw [← es]
  show _ = some (sqm X Y x y m (0 + 1) (if sqd X Y x y 0 < 1073741824 then sqd X Y x y 0 else 1073741824))
  rw [if_pos (by rw [Int32.lt_iff_toInt_lt, show (1073741824 : Int32).toInt = 1073741824 from rfl]; omega)]
  exact R_sq hs hn h8 hX hY x y m 1 _ 4095 (by omega) (by omega) (by omega)
