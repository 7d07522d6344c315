/-! the reference's shapes -/
theorem sub_int {a b : Int32} (h1 : -2 ^ 31 ≤ a.toInt - b.toInt) (h2 : a.toInt - b.toInt < 2 ^ 31) : (a - b).toInt = a.toInt - b.toInt := by
  rw [Int32.toInt_sub]
  exact Int.bmod_eq_of_le (by omega) (by omega)
theorem add_int {a b : Int32} (h1 : -2 ^ 31 ≤ a.toInt + b.toInt) (h2 : a.toInt + b.toInt < 2 ^ 31) : (a + b).toInt = a.toInt + b.toInt := by
  rw [Int32.toInt_add]
  exact Int.bmod_eq_of_le (by omega) (by omega)
theorem mul_int {a b : Int32} (h1 : -2 ^ 31 ≤ a.toInt * b.toInt) (h2 : a.toInt * b.toInt < 2 ^ 31) : (a * b).toInt = a.toInt * b.toInt := by
  rw [Int32.toInt_mul]
  exact Int.bmod_eq_of_le (by omega) (by omega)
/-- a product of two numbers of at most M -/
theorem mul_bd {a b M N : Int} (ha : -M ≤ a ∧ a ≤ M) (hb : -N ≤ b ∧ b ≤ N) (hM : 0 ≤ M) (hN : 0 ≤ N) : -(M * N) ≤ a * b ∧ a * b ≤ M * N := by
  have h1 : a.natAbs ≤ M.toNat := by omega
  have h2 : b.natAbs ≤ N.toNat := by omega
  have h3 : (a * b).natAbs ≤ M.toNat * N.toNat := by rw [Int.natAbs_mul]; exact Nat.mul_le_mul h1 h2
  have h4 : ((M.toNat * N.toNat : Nat) : Int) = M * N := by
    rw [Int.natCast_mul, Int.toNat_of_nonneg hM, Int.toNat_of_nonneg hN]
  omega
def inB (x : Int32) : Prop := 0 ≤ x.toInt ∧ x.toInt ≤ 4095
theorem turn_int {xi yi xj yj x y : Int32} (h1 : inB xi) (h2 : inB yi) (h3 : inB xj) (h4 : inB yj) (h5 : inB x) (h6 : inB y) : (turnF xi yi xj yj x y).toInt = (xi.toInt - x.toInt) * (yj.toInt - yi.toInt) + (y.toInt - yi.toInt) * (xj.toInt - xi.toInt) := by
  unfold inB at *
  unfold turnF
  have e1 := sub_int (a := xi) (b := x) (by omega) (by omega)
  have e2 := sub_int (a := yj) (b := yi) (by omega) (by omega)
  have e3 := sub_int (a := y) (b := yi) (by omega) (by omega)
  have e4 := sub_int (a := xj) (b := xi) (by omega) (by omega)
  have b1 := mul_bd (a := xi.toInt - x.toInt) (b := yj.toInt - yi.toInt) (M := 4095) (N := 4095) (by omega) (by omega) (by omega) (by omega)
  have b2 := mul_bd (a := y.toInt - yi.toInt) (b := xj.toInt - xi.toInt) (M := 4095) (N := 4095) (by omega) (by omega) (by omega) (by omega)
  have m1 := mul_int (a := xi - x) (b := yj - yi) (by rw [e1, e2]; omega) (by rw [e1, e2]; omega)
  have m2 := mul_int (a := y - yi) (b := xj - xi) (by rw [e3, e4]; omega) (by rw [e3, e4]; omega)
  rw [add_int (by rw [m1, m2, e1, e2, e3, e4]; omega) (by rw [m1, m2, e1, e2, e3, e4]; omega), m1, m2, e1, e2, e3, e4]
/-- a point of a side's line between the heights of its ends lies in the side's box -/
theorem cross_box {xi yi xj yj x y : Int32} (h1 : inB xi) (h2 : inB yi) (h3 : inB xj) (h4 : inB yj) (h5 : inB x) (h6 : inB y) (ht : turnF xi yi xj yj x y = 0) (hu : y < yi) (hd : yj ≤ y) : boxQ xi xj yi yj x y := by
  have ti := turn_int h1 h2 h3 h4 h5 h6
  rw [ht] at ti
  rw [Int32.lt_iff_toInt_lt] at hu
  rw [Int32.le_iff_toInt_le] at hd
  have h0 : (0 : Int32).toInt = 0 := rfl
  rw [h0] at ti
  have key : x.toInt * (yi.toInt - yj.toInt) = xi.toInt * (y.toInt - yj.toInt) + xj.toInt * (yi.toInt - y.toInt) := by grind
  have split : x.toInt * (yi.toInt - yj.toInt) = x.toInt * (y.toInt - yj.toInt) + x.toInt * (yi.toInt - y.toInt) := by grind
  have lo : ¬ (x.toInt < xi.toInt ∧ x.toInt < xj.toInt) := by
    rintro ⟨q1, q2⟩
    have a1 : x.toInt * (y.toInt - yj.toInt) ≤ xi.toInt * (y.toInt - yj.toInt) := Int.mul_le_mul_of_nonneg_right (by omega) (by omega)
    have a2 : x.toInt * (yi.toInt - y.toInt) < xj.toInt * (yi.toInt - y.toInt) := Int.mul_lt_mul_of_pos_right q2 (by omega)
    omega
  have hi : ¬ (xi.toInt < x.toInt ∧ xj.toInt < x.toInt) := by
    rintro ⟨q1, q2⟩
    have a1 : xi.toInt * (y.toInt - yj.toInt) ≤ x.toInt * (y.toInt - yj.toInt) := Int.mul_le_mul_of_nonneg_right (by omega) (by omega)
    have a2 : xj.toInt * (yi.toInt - y.toInt) < x.toInt * (yi.toInt - y.toInt) := Int.mul_lt_mul_of_pos_right q2 (by omega)
    omega
  unfold boxQ
  simp only [Int32.lt_iff_toInt_lt]
  refine ⟨?_, ?_, ?_, ?_⟩
  · split <;> omega
  · split <;> omega
  · split <;> omega
  · split <;> omega
theorem nxt_mod {k n : Nat} (hk : k < n) (hn : n < 2 ^ 31) : (i32 k + 1) - (i32 k + 1) / i32 n * i32 n = i32 (nxt n k) := by
  rw [i32_succ, show i32 (k + 1) / i32 n = i32 ((k + 1) / n) from (Int32.ofNat_div (by omega) hn).symm, i32_mul, i32_sub (Nat.div_mul_le_self _ _)]
  congr 1
  unfold nxt
  by_cases h : k + 1 < n
  · rw [if_pos h, Nat.div_eq_of_lt h]
    omega
  · have e : k + 1 = n := by omega
    rw [if_neg h, e, Nat.div_self (by omega)]
    omega
theorem R_area {ρ : RS} {n : Nat} (hn : ri ρ 18 = i32 n) (h8 : n ≤ 8) (m : Nat) : ∀ (k : Nat) (s : Int32) (fuel : Nat), k + m = n → m < fuel → RB_M_isArea_4 ρ fuel s (i32 k) = some (bI (3 ≤ n ∧ surf n (ra ρ 19) (ra ρ 20) m k s ≠ 0)) := by
  induction m with
  | zero =>
    intro k s fuel hk hf
    cases fuel with
    | zero => omega
    | succ fuel =>
      show (if ri ρ 18 ≤ i32 k then _ else _) = _
      rw [hn, if_pos ((i32_le (by omega) (by omega)).mpr (by omega))]
      unfold RB_M_isArea_73 RB_M_isArea_74 surf
      by_cases h2 : n ≤ 2
      · rw [if_pos (show i32 n ≤ 2 from (i32_le (a := n) (b := 2) (by omega) (by omega)).mpr h2), bI_neg (fun q => by omega)]
        exact gd0
      · rw [if_neg (show ¬ i32 n ≤ 2 from fun e => h2 ((i32_le (a := n) (b := 2) (by omega) (by omega)).mp e))]
        by_cases hs : s = 0
        · rw [if_pos hs, bI_neg (fun q => q.2 hs)]
          exact gd0
        · rw [if_neg hs, bI_pos ⟨by omega, hs⟩]
          exact gd1
  | succ m ih =>
    intro k s fuel hk hf
    cases fuel with
    | zero => omega
    | succ fuel =>
      have hk1 : k < n := by omega
      have hj := nxt_lt hk1
      show (if ri ρ 18 ≤ i32 k then _ else gd (ri ρ 18 = 0) (b0 ((i32 k + 1) - (i32 k + 1) / (ri ρ 18) * (ri ρ 18)) _)) = _
      rw [hn, if_neg (fun e => by have := (i32_le (by omega) (by omega)).mp e; omega), gd_no (show ¬ (i32 n = 0) from fun e => by have := (i32_inj (a := n) (b := 0) (by omega) (by omega)).mp e; omega), nxt_mod hk1 (by omega)]
      simp only [b0_eq, b1_some, rgI_at (ρ := ρ) (k := 19) (n := 8) (j := k) (by omega) (by omega), rgI_at (ρ := ρ) (k := 20) (n := 8) (j := k) (by omega) (by omega), rgI_at (ρ := ρ) (k := 19) (n := 8) (j := nxt n k) (by omega) (by omega), rgI_at (ρ := ρ) (k := 20) (n := 8) (j := nxt n k) (by omega) (by omega), i32_succ]
      exact ih (k + 1) _ fuel (by omega) (by omega)
theorem R_isArea_eq {ρ : RS} {n : Nat} (hn : ri ρ 18 = i32 n) (h8 : n ≤ 8) : R_M_isArea ρ = some (bI (3 ≤ n ∧ surf n (ra ρ 19) (ra ρ 20) n 0 0 ≠ 0)) :=
  R_area hn h8 n 0 0 fu (by omega) (by unfold fu; omega)
/-- shape s of the reference -/
abbrev shX (ρ : RS) (s : Nat) : Nat → Int32 := fun k => ra ρ 7 (8 * s + k)
abbrev shY (ρ : RS) (s : Nat) : Nat → Int32 := fun k => ra ρ 8 (8 * s + k)
theorem i32_8 (s k : Nat) : (8 : Int32) * i32 s + i32 k = i32 (8 * s + k) := by
  rw [show (8 : Int32) = i32 8 from rfl, i32_mul, i32_add]
