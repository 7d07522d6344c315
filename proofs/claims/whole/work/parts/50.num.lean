/-! numbers -/
abbrev i32 (n : Nat) : Int32 := Int32.ofNat n
theorem i32_nat {n : Nat} (h : n < 2 ^ 31) : (i32 n).toNatClampNeg = n := Int32.toNatClampNeg_ofNat_of_lt h
theorem i32_int {n : Nat} (h : n < 2 ^ 31) : (i32 n).toInt = n := Int32.toInt_ofNat_of_lt h
theorem i32_le {a b : Nat} (ha : a < 2 ^ 31) (hb : b < 2 ^ 31) : (i32 a ≤ i32 b) ↔ a ≤ b := Int32.ofNat_le_iff_le ha hb
theorem i32_lt {a b : Nat} (ha : a < 2 ^ 31) (hb : b < 2 ^ 31) : (i32 a < i32 b) ↔ a < b := Int32.ofNat_lt_iff_lt ha hb
theorem i32_succ (n : Nat) : i32 n + 1 = i32 (n + 1) := (Int32.ofNat_add n 1).symm
theorem i32_nn {n : Nat} (h : n < 2 ^ 31) : ¬ (i32 n < 0) := by
  rw [Int32.lt_iff_toInt_lt, i32_int h]
  simp
theorem i32_inj {a b : Nat} (ha : a < 2 ^ 31) (hb : b < 2 ^ 31) : (i32 a = i32 b) ↔ a = b := by
  rw [← Int32.toInt_inj, i32_int ha, i32_int hb]
  omega
theorem i32_ring1 (a b c d x y : Int32) : (a - x) * (d - b) + (y - b) * (c - a) = (c - a) * (y - b) - (d - b) * (x - a) := by grind
theorem i32_of {z : Int32} (h : 0 ≤ z.toInt) : z = i32 z.toInt.toNat := by
  rw [← Int32.toInt_inj]
  have := z.toInt_lt
  rw [i32_int (by omega)]
  omega
theorem i32_mul (a b : Nat) : i32 a * i32 b = i32 (a * b) := (Int32.ofNat_mul a b).symm
theorem i32_add (a b : Nat) : i32 a + i32 b = i32 (a + b) := (Int32.ofNat_add a b).symm
theorem i32_sub {a b : Nat} (h : b ≤ a) : i32 a - i32 b = i32 (a - b) := (Int32.ofNat_sub a b h).symm
/-- reading -/
theorem b1_some {α β : Type} (x : α) (F : α → Option β) : b1 (some x) F = F x := rfl
theorem b0_eq {α β : Type} (x : α) (F : α → Option β) : b0 x F = F x := rfl
theorem gd_no {β : Type} {c : Prop} [Decidable c] (h : ¬ c) (o : Option β) : gd c o = o := if_neg h
theorem rgI_at {ρ : RS} {k n j : Nat} (h : j < n) (hn : n < 2 ^ 31) : rgI ρ k n (i32 j) = some (ra ρ k j) := by
  unfold rgI
  rw [i32_nat (by omega), if_neg]
  intro q
  rcases q with q | q
  · exact i32_nn (by omega) q
  · omega
theorem rsI_at {ρ : RS} {k n j : Nat} {x : Int32} (h : j < n) (hn : n < 2 ^ 31) : rsI ρ k n (i32 j) x = some (rset ρ k (upd (ra ρ k) j x)) := by
  unfold rsI
  rw [i32_nat (by omega), if_neg]
  intro q
  rcases q with q | q
  · exact i32_nn (by omega) q
  · omega
