/-! a side of a route and a point -/
def zLen (ax ay bx by' : Int32) : Int := (bx.toInt - ax.toInt) * (bx.toInt - ax.toInt) + (by'.toInt - ay.toInt) * (by'.toInt - ay.toInt)
def zPart (ax ay bx by' x y : Int32) : Int := (x.toInt - ax.toInt) * (bx.toInt - ax.toInt) + (y.toInt - ay.toInt) * (by'.toInt - ay.toInt)
def zOff (ax ay bx by' x y : Int32) : Int := (bx.toInt - ax.toInt) * (y.toInt - ay.toInt) - (by'.toInt - ay.toInt) * (x.toInt - ax.toInt)
def zSq (ax ay x y : Int32) : Int := (x.toInt - ax.toInt) * (x.toInt - ax.toInt) + (y.toInt - ay.toInt) * (y.toInt - ay.toInt)
def mP (ax ay bx by' x y : Int32) : Nat := if zPart ax ay bx by' x y ≤ 0 then (zSq ax ay x y).toNat else if zPart ax ay bx by' x y < zLen ax ay bx by' then (zOff ax ay bx by' x y * zOff ax ay bx by' x y).toNat else (zSq bx by' x y).toNat
def mQ (ax ay bx by' x y : Int32) : Nat := if zPart ax ay bx by' x y ≤ 0 then 1 else if zPart ax ay bx by' x y < zLen ax ay bx by' then (zLen ax ay bx by').toNat else 1
def mA (ax ay bx by' x y : Int32) : Nat := if zPart ax ay bx by' x y ≤ 0 then 0 else if zPart ax ay bx by' x y < zLen ax ay bx by' then (zPart ax ay bx by' x y).toNat else (zLen ax ay bx by').toNat
def mL (ax ay bx by' : Int32) : Nat := if zLen ax ay bx by' = 0 then 1 else (zLen ax ay bx by').toNat
theorem sq_nn (z : Int) : 0 ≤ z * z := by
  rcases Int.le_total 0 z with h | h
  · exact Int.mul_nonneg h h
  · exact Int.mul_nonneg_of_nonpos_of_nonpos h h
theorem zLen_bd {ax ay bx by' : Int32} (h1 : inB ax) (h2 : inB ay) (h3 : inB bx) (h4 : inB by') : 0 ≤ zLen ax ay bx by' ∧ zLen ax ay bx by' ≤ 33538050 := by
  unfold inB at *
  unfold zLen
  have b1 := mul_bd (a := bx.toInt - ax.toInt) (b := bx.toInt - ax.toInt) (M := 4095) (N := 4095) (by omega) (by omega) (by omega) (by omega)
  have b2 := mul_bd (a := by'.toInt - ay.toInt) (b := by'.toInt - ay.toInt) (M := 4095) (N := 4095) (by omega) (by omega) (by omega) (by omega)
  have c1 := sq_nn (bx.toInt - ax.toInt)
  have c2 := sq_nn (by'.toInt - ay.toInt)
  omega
theorem zSq_bd {ax ay x y : Int32} (h1 : inB ax) (h2 : inB ay) (h3 : inB x) (h4 : inB y) : 0 ≤ zSq ax ay x y ∧ zSq ax ay x y ≤ 33538050 := zLen_bd h1 h2 h3 h4
theorem zPart_bd {ax ay bx by' x y : Int32} (h1 : inB ax) (h2 : inB ay) (h3 : inB bx) (h4 : inB by') (h5 : inB x) (h6 : inB y) : -33538050 ≤ zPart ax ay bx by' x y ∧ zPart ax ay bx by' x y ≤ 33538050 := by
  unfold inB at *
  unfold zPart
  have b1 := mul_bd (a := x.toInt - ax.toInt) (b := bx.toInt - ax.toInt) (M := 4095) (N := 4095) (by omega) (by omega) (by omega) (by omega)
  have b2 := mul_bd (a := y.toInt - ay.toInt) (b := by'.toInt - ay.toInt) (M := 4095) (N := 4095) (by omega) (by omega) (by omega) (by omega)
  omega
theorem zOff_bd {ax ay bx by' x y : Int32} (h1 : inB ax) (h2 : inB ay) (h3 : inB bx) (h4 : inB by') (h5 : inB x) (h6 : inB y) : -33538050 ≤ zOff ax ay bx by' x y ∧ zOff ax ay bx by' x y ≤ 33538050 := by
  unfold inB at *
  unfold zOff
  have b1 := mul_bd (a := bx.toInt - ax.toInt) (b := y.toInt - ay.toInt) (M := 4095) (N := 4095) (by omega) (by omega) (by omega) (by omega)
  have b2 := mul_bd (a := by'.toInt - ay.toInt) (b := x.toInt - ax.toInt) (M := 4095) (N := 4095) (by omega) (by omega) (by omega) (by omega)
  omega
theorem zOff_sq {ax ay bx by' x y : Int32} (h1 : inB ax) (h2 : inB ay) (h3 : inB bx) (h4 : inB by') (h5 : inB x) (h6 : inB y) : 0 ≤ zOff ax ay bx by' x y * zOff ax ay bx by' x y ∧ zOff ax ay bx by' x y * zOff ax ay bx by' x y ≤ 1124800797802500 := by
  have h := zOff_bd h1 h2 h3 h4 h5 h6
  have b1 := mul_bd (a := zOff ax ay bx by' x y) (b := zOff ax ay bx by' x y) (M := 33538050) (N := 33538050) h h (by omega) (by omega)
  exact ⟨sq_nn _, by omega⟩
theorem zLen_pos {ax ay bx by' x y : Int32} (h : 0 < zPart ax ay bx by' x y) : zLen ax ay bx by' ≠ 0 := by
  intro q
  unfold zLen at q
  have c1 := sq_nn (bx.toInt - ax.toInt)
  have c2 := sq_nn (by'.toInt - ay.toInt)
  have d1 : bx.toInt - ax.toInt = 0 := by
    rcases Int.mul_eq_zero.mp (show (bx.toInt - ax.toInt) * (bx.toInt - ax.toInt) = 0 by omega) with h | h <;> exact h
  have d2 : by'.toInt - ay.toInt = 0 := by
    rcases Int.mul_eq_zero.mp (show (by'.toInt - ay.toInt) * (by'.toInt - ay.toInt) = 0 by omega) with h | h <;> exact h
  unfold zPart at h
  rw [d1, d2, Int.mul_zero, Int.mul_zero] at h
  omega
theorem m_bd {ax ay bx by' x y : Int32} (h1 : inB ax) (h2 : inB ay) (h3 : inB bx) (h4 : inB by') (h5 : inB x) (h6 : inB y) : mP ax ay bx by' x y ≤ 1124800797802500 ∧ 0 < mQ ax ay bx by' x y ∧ mQ ax ay bx by' x y ≤ 33538050 ∧ mA ax ay bx by' x y ≤ 33538050 ∧ 0 < mL ax ay bx by' ∧ mL ax ay bx by' ≤ 33538050 ∧ mA ax ay bx by' x y ≤ mL ax ay bx by' := by
  have b1 := zLen_bd h1 h2 h3 h4
  have b2 := zSq_bd h1 h2 h5 h6
  have b3 := zSq_bd h3 h4 h5 h6
  have b4 := zPart_bd h1 h2 h3 h4 h5 h6
  have b5 := zOff_sq h1 h2 h3 h4 h5 h6
  have b6 := zLen_pos (ax := ax) (ay := ay) (bx := bx) (by' := by') (x := x) (y := y)
  unfold mP mQ mA mL
  generalize zOff ax ay bx by' x y * zOff ax ay bx by' x y = O at *
  generalize zLen ax ay bx by' = L at *
  generalize zPart ax ay bx by' x y = T at *
  generalize zSq ax ay x y = S1 at *
  generalize zSq bx by' x y = S2 at *
  by_cases c1 : T ≤ 0
  · simp only [if_pos c1]
    split <;> omega
  · simp only [if_neg c1]
    by_cases c2 : T < L
    · simp only [if_pos c2]
      rw [if_neg (b6 (by omega))]
      omega
    · simp only [if_neg c2]
      rw [if_neg (b6 (by omega))]
      omega
theorem i64_of {z : Int64} {k : Int} (h : z.toInt = k) (h0 : 0 ≤ k) : z = i64 k.toNat := by
  rw [← Int64.toInt_inj]
  have := z.toInt_lt
  rw [i64_int (by omega)]
  omega
theorem mul64 {a b : Int32} (ha : -4095 ≤ a.toInt ∧ a.toInt ≤ 4095) (hb : -4095 ≤ b.toInt ∧ b.toInt ≤ 4095) : (a.toInt64 * b.toInt64).toInt = a.toInt * b.toInt := by
  have b1 := mul_bd (a := a.toInt) (b := b.toInt) (M := 4095) (N := 4095) ha hb (by omega) (by omega)
  rw [Int64.toInt_mul, Int32.toInt_toInt64, Int32.toInt_toInt64]
  exact Int.bmod_eq_of_le (by omega) (by omega)
theorem mul32 {a b : Int32} (ha : -4095 ≤ a.toInt ∧ a.toInt ≤ 4095) (hb : -4095 ≤ b.toInt ∧ b.toInt ≤ 4095) : (a * b).toInt = a.toInt * b.toInt ∧ -16769025 ≤ a.toInt * b.toInt ∧ a.toInt * b.toInt ≤ 16769025 := by
  have b1 := mul_bd (a := a.toInt) (b := b.toInt) (M := 4095) (N := 4095) ha hb (by omega) (by omega)
  exact ⟨mul_int (by omega) (by omega), by omega, by omega⟩
theorem dot32 {a b c d : Int32} (ha : -4095 ≤ a.toInt ∧ a.toInt ≤ 4095) (hb : -4095 ≤ b.toInt ∧ b.toInt ≤ 4095) (hc : -4095 ≤ c.toInt ∧ c.toInt ≤ 4095) (hd : -4095 ≤ d.toInt ∧ d.toInt ≤ 4095) : (a * b + c * d).toInt = a.toInt * b.toInt + c.toInt * d.toInt := by
  obtain ⟨m1, m2, m3⟩ := mul32 ha hb
  obtain ⟨n1, n2, n3⟩ := mul32 hc hd
  rw [add_int (by rw [m1, n1]; omega) (by rw [m1, n1]; omega), m1, n1]
theorem dot64 {a b c d : Int32} (ha : -4095 ≤ a.toInt ∧ a.toInt ≤ 4095) (hb : -4095 ≤ b.toInt ∧ b.toInt ≤ 4095) (hc : -4095 ≤ c.toInt ∧ c.toInt ≤ 4095) (hd : -4095 ≤ d.toInt ∧ d.toInt ≤ 4095) : (a.toInt64 * b.toInt64 + c.toInt64 * d.toInt64).toInt = a.toInt * b.toInt + c.toInt * d.toInt := by
  obtain ⟨m1, m2, m3⟩ := mul32 ha hb
  obtain ⟨n1, n2, n3⟩ := mul32 hc hd
  rw [Int64.toInt_add, mul64 ha hb, mul64 hc hd]
  exact Int.bmod_eq_of_le (by omega) (by omega)
theorem det64 {a b c d : Int32} (ha : -4095 ≤ a.toInt ∧ a.toInt ≤ 4095) (hb : -4095 ≤ b.toInt ∧ b.toInt ≤ 4095) (hc : -4095 ≤ c.toInt ∧ c.toInt ≤ 4095) (hd : -4095 ≤ d.toInt ∧ d.toInt ≤ 4095) : (a.toInt64 * b.toInt64 - c.toInt64 * d.toInt64).toInt = a.toInt * b.toInt - c.toInt * d.toInt := by
  obtain ⟨m1, m2, m3⟩ := mul32 ha hb
  obtain ⟨n1, n2, n3⟩ := mul32 hc hd
  rw [Int64.toInt_sub, mul64 ha hb, mul64 hc hd]
  exact Int.bmod_eq_of_le (by omega) (by omega)
theorem sqr64 {z : Int64} {k : Int} (h : z.toInt = k) (hb : -33538050 ≤ k ∧ k ≤ 33538050) : (z * z).toInt = k * k := by
  have b1 := mul_bd (a := k) (b := k) (M := 33538050) (N := 33538050) hb hb (by omega) (by omega)
  rw [Int64.toInt_mul, h]
  exact Int.bmod_eq_of_le (by omega) (by omega)
theorem diff {a b : Int32} (ha : inB a) (hb : inB b) : (a - b).toInt = a.toInt - b.toInt ∧ -4095 ≤ (a - b).toInt ∧ (a - b).toInt ≤ 4095 := by
  unfold inB at *
  have := sub_int (a := a) (b := b) (by omega) (by omega)
  exact ⟨this, by omega, by omega⟩
theorem i32_eqn {z : Int32} {k : Int} (h : z.toInt = k) (h0 : 0 ≤ k) : z = i32 k.toNat := by
  rw [← h]
  exact i32_of (by omega)
theorem lg_ltz {x y : Int64} : (lg_cmp x y < 0) ↔ x < y := by
  unfold lg_cmp
  by_cases h : x > y
  · rw [if_pos h]
    exact ⟨fun q => absurd q (by decide), fun q => absurd h (fun h => by rw [GT.gt, Int64.lt_iff_toInt_lt] at h; rw [Int64.lt_iff_toInt_lt] at q; omega)⟩
  · rw [if_neg h]
    by_cases h2 : x = y
    · rw [if_pos h2]
      exact ⟨fun q => absurd q (by decide), fun q => by rw [h2, Int64.lt_iff_toInt_lt] at q; omega⟩
    · rw [if_neg h2]
      refine ⟨fun _ => ?_, fun _ => by decide⟩
      rw [Int64.lt_iff_toInt_lt]
      rw [GT.gt, Int64.lt_iff_toInt_lt] at h
      rw [← Int64.toInt_inj] at h2
      omega
