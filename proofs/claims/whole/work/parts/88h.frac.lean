/-! fractions -/
abbrev i64 (n : Nat) : Int64 := Int64.ofNat n
theorem i64_int {n : Nat} (h : n < 2 ^ 63) : (i64 n).toInt = n := Int64.toInt_ofNat_of_lt h
theorem i64_div {a b : Nat} (ha : a < 2 ^ 63) (hb : b < 2 ^ 63) : i64 a / i64 b = i64 (a / b) := by
  have hab : a / b ≤ a := Nat.div_le_self a b
  rw [← Int64.toInt_inj, Int64.toInt_div, i64_int ha, i64_int hb, i64_int (by omega), Int.tdiv_eq_ediv_of_nonneg (by omega), ← Int.natCast_ediv]
  generalize a / b = z at *
  exact Int.bmod_eq_of_le (by omega) (by omega)
theorem i64_mul (a b : Nat) : i64 a * i64 b = i64 (a * b) := (Int64.ofNat_mul a b).symm
theorem i64_add (a b : Nat) : i64 a + i64 b = i64 (a + b) := (Int64.ofNat_add a b).symm
theorem i64_sub {a b : Nat} (h : b ≤ a) : i64 a - i64 b = i64 (a - b) := (Int64.ofNat_sub a b h).symm
theorem i64_mod {a b : Nat} (ha : a < 2 ^ 63) (hb : b < 2 ^ 63) : i64 a - i64 a / i64 b * i64 b = i64 (a % b) := by
  have h := Nat.div_mul_le_self a b
  have h2 := Nat.div_add_mod a b
  rw [i64_div ha hb, i64_mul, i64_sub h]
  congr 1
  rw [Nat.mul_comm] at h2
  omega
theorem lg_nat {a b : Nat} (ha : a < 2 ^ 63) (hb : b < 2 ^ 63) : lg_cmp (i64 a) (i64 b) = if b < a then 1 else if a = b then 0 else -1 := by
  unfold lg_cmp
  have e1 : (i64 a > i64 b) ↔ b < a := by
    rw [GT.gt, Int64.lt_iff_toInt_lt, i64_int ha, i64_int hb]
    omega
  by_cases h1 : b < a
  · rw [if_pos (e1.mpr h1), if_pos h1]
  · rw [if_neg (fun q => h1 (e1.mp q)), if_neg h1]
    by_cases h2 : a = b
    · rw [if_pos (by rw [h2]), if_pos h2]
    · rw [if_neg (fun q => h2 ((i64_eq ha hb).mp q)), if_neg h2]
theorem lg0 {n : Nat} (h : n < 2 ^ 63) : (lg_cmp (i64 n) 0 = 0) ↔ n = 0 := lg_zero.trans (i64_eq (b := 0) h (by decide))
theorem cf_step {a b c d : Nat} (ha : a < 2 ^ 63) (hb : b < 2 ^ 63) (hc : c < 2 ^ 63) (hd : d < 2 ^ 63) (hb0 : 0 < b) (hd0 : 0 < d) (s : Int32) (fuel : Nat) : RB_M_compareFractions_17 (fuel + 1) (i64 a) (i64 b) (i64 c) (i64 d) s = if a / b = c / d then (if a % b = 0 ∨ c % d = 0 then some (if a % b = c % d then 0 else if a % b = 0 then -s else s) else RB_M_compareFractions_17 fuel (i64 b) (i64 (a % b)) (i64 d) (i64 (c % d)) (-s)) else if c / d < a / b then some s else some (-s) := by
  have nb : ¬ i64 b = 0 := fun q => by have := (i64_eq (b := 0) hb (by decide)).mp q; omega
  have nd : ¬ i64 d = 0 := fun q => by have := (i64_eq (b := 0) hd (by decide)).mp q; omega
  have q1 : a / b < 2 ^ 63 := Nat.lt_of_le_of_lt (Nat.div_le_self a b) ha
  have q2 : c / d < 2 ^ 63 := Nat.lt_of_le_of_lt (Nat.div_le_self c d) hc
  have q3 : a % b < 2 ^ 63 := Nat.lt_of_le_of_lt (Nat.mod_le a b) ha
  have q4 : c % d < 2 ^ 63 := Nat.lt_of_le_of_lt (Nat.mod_le c d) hc
  have h82 : RB_M_compareFractions_82 s (i64 (a % b)) (i64 (c % d)) = some (if a % b = c % d then 0 else if a % b = 0 then -s else s) := by
    unfold RB_M_compareFractions_82 RB_M_compareFractions_109
    by_cases h1 : a % b = c % d
    · rw [if_pos (lg_zero.mpr (by rw [h1])), if_pos h1]
    · rw [if_neg (fun q => h1 ((i64_eq q3 q4).mp (lg_zero.mp q))), if_neg h1]
      by_cases h2 : a % b = 0
      · rw [if_pos ((lg0 q3).mpr h2), if_pos h2]
      · rw [if_neg (fun q => h2 ((lg0 q3).mp q)), if_neg h2]
  show gd (i64 b = 0) (gd (i64 d = 0) (if (lg_cmp (i64 a / i64 b) (i64 c / i64 d)) = 0 then gd (i64 b = 0) (b0 (i64 a - i64 a / i64 b * i64 b) (fun x59 => gd (i64 d = 0) (b0 (i64 c - i64 c / i64 d * i64 d) (fun x66 => if (lg_cmp x59 0) = 0 then RB_M_compareFractions_82 s x59 x66 else if (lg_cmp x66 0) = 0 then RB_M_compareFractions_82 s x59 x66 else b0 (-s) (fun x129 => RB_M_compareFractions_17 fuel (i64 b) x59 (i64 d) x66 x129))))) else gd (i64 b = 0) (gd (i64 d = 0) (if 0 ≤ (lg_cmp (i64 a / i64 b) (i64 c / i64 d)) then RB_M_compareFractions_53 s else RB_M_compareFractions_53 (-s))))) = _
  rw [gd_no nb, gd_no nd, gd_no nb, gd_no nb, gd_no nd, b0_eq, gd_no nd, b0_eq, i64_mod ha hb, i64_mod hc hd, i64_div ha hb, i64_div hc hd, h82]
  by_cases h1 : a / b = c / d
  · rw [if_pos h1, if_pos (lg_zero.mpr (by rw [h1]))]
    by_cases h2 : a % b = 0
    · rw [if_pos ((lg0 q3).mpr h2), if_pos (show a % b = 0 ∨ c % d = 0 from .inl h2)]
    · rw [if_neg (fun q => h2 ((lg0 q3).mp q))]
      by_cases h3 : c % d = 0
      · rw [if_pos ((lg0 q4).mpr h3), if_pos (show a % b = 0 ∨ c % d = 0 from .inr h3)]
      · rw [if_neg (fun q => h3 ((lg0 q4).mp q)), if_neg (by omega), b0_eq]
  · rw [if_neg h1, if_neg (fun q => h1 ((i64_eq q1 q2).mp (lg_zero.mp q))), lg_nat q1 q2]
    by_cases h2 : c / d < a / b
    · rw [if_pos h2, if_pos h2, if_pos (by decide)]
      rfl
    · rw [if_neg h2, if_neg h2, if_neg h1, if_neg (by decide)]
      rfl
theorem cf_math {a b c d q r q' r' : Nat} (ha : a = b * q + r) (hr : r < b) (hc : c = d * q' + r') (hr' : r' < d) : (q < q' → a * d < c * b) ∧ (q = q' → a * d + r' * b = c * b + r * d) := by
  subst ha hc
  refine ⟨fun h => ?_, fun h => ?_⟩
  · have h1 : (b * q + r) < b * q' := by
      have : b * (q + 1) ≤ b * q' := Nat.mul_le_mul_left b h
      rw [Nat.mul_succ] at this
      omega
    have h2 : (b * q + r) * d < b * q' * d := Nat.mul_lt_mul_of_pos_right h1 (by omega)
    have h3 : b * q' * d ≤ (d * q' + r') * b := by
      rw [Nat.add_mul, Nat.mul_comm (d * q') b, Nat.mul_comm d q', ← Nat.mul_assoc]
      omega
    omega
  · subst h
    grind
def cfV (a b c d : Nat) (s : Int32) : Int32 := if a * d = c * b then 0 else if c * b < a * d then s else -s
theorem cf_neg (s : Int32) : - (- s) = s := Int32.neg_neg
theorem cf_loop (m : Nat) : ∀ (a b c d fuel : Nat) (s : Int32), a < 2 ^ 63 → c < 2 ^ 63 → 0 < b → 0 < d → b < 2 ^ 63 → d < 2 ^ 63 → b ≤ a → a * b < 2 ^ m → m < fuel → RB_M_compareFractions_17 fuel (i64 a) (i64 b) (i64 c) (i64 d) s = some (cfV a b c d s) := by
  induction m with
  | zero =>
    intro a b c d fuel s ha hc hb0 hd0 hb hd hba hm hf
    have : 0 < a * b := Nat.mul_pos (by omega) hb0
    omega
  | succ m ih =>
    intro a b c d fuel s ha hc hb0 hd0 hb hd hba hm hf
    cases fuel with
    | zero => omega
    | succ fuel =>
      have m1 := Nat.mod_lt a hb0
      have m2 := Nat.mod_lt c hd0
      obtain ⟨t1, t2⟩ := cf_math (Nat.div_add_mod a b).symm m1 (Nat.div_add_mod c d).symm m2
      obtain ⟨t3, t4⟩ := cf_math (Nat.div_add_mod c d).symm m2 (Nat.div_add_mod a b).symm m1
      rw [cf_step ha hb hc hd hb0 hd0]
      unfold cfV
      by_cases h1 : a / b = c / d
      · rw [if_pos h1]
        have t5 := t2 h1
        by_cases h2 : a % b = 0 ∨ c % d = 0
        · rw [if_pos h2]
          by_cases h3 : a % b = c % d
          · have h0 : a % b = 0 := by omega
            have h0' : c % d = 0 := by omega
            rw [h0, h0'] at t5
            rw [if_pos h3, if_pos (by omega)]
          · rw [if_neg h3]
            by_cases h4 : a % b = 0
            · have h5 : 0 < c % d * b := Nat.mul_pos (by omega) hb0
              rw [h4] at t5
              rw [if_pos h4, if_neg (by omega), if_neg (by omega)]
            · have h5 : 0 < a % b * d := Nat.mul_pos (by omega) hd0
              have h6 : c % d = 0 := by omega
              rw [h6] at t5
              rw [if_neg h4, if_neg (by omega), if_pos (by omega)]
        · rw [if_neg h2]
          have hlt : b * (a % b) < 2 ^ m := by
            have e := Nat.div_add_mod a b
            have hq : 1 ≤ a / b := (Nat.le_div_iff_mul_le hb0).mpr (by omega)
            have hbq : b * 1 ≤ b * (a / b) := Nat.mul_le_mul_left b hq
            have : 2 * (a % b) ≤ a := by omega
            have h3 : b * (2 * (a % b)) ≤ b * a := Nat.mul_le_mul_left b this
            rw [Nat.mul_comm b a] at h3
            rw [Nat.pow_succ] at hm
            have h4 : b * (2 * (a % b)) = 2 * (b * (a % b)) := by rw [← Nat.mul_assoc, Nat.mul_comm b 2, Nat.mul_assoc]
            omega
          rw [ih b (a % b) d (c % d) fuel (-s) hb hd (by omega) (by omega) (by omega) (by omega) (by omega) hlt (by omega)]
          unfold cfV
          rw [cf_neg, Nat.mul_comm b, Nat.mul_comm d]
          congr 1
          by_cases h3 : c % d * b = a % b * d
          · rw [if_pos h3, if_pos (by omega)]
          · rw [if_neg h3]
            by_cases h4 : a % b * d < c % d * b
            · rw [if_pos h4, if_neg (show ¬ a * d = c * b by omega), if_neg (show ¬ c * b < a * d by omega)]
            · rw [if_neg h4, if_neg (show ¬ a * d = c * b by omega), if_pos (show c * b < a * d by omega)]
      · rw [if_neg h1]
        by_cases h2 : c / d < a / b
        · have := t3 h2
          rw [if_pos h2, if_neg (by omega), if_pos this]
        · have := t1 (by omega)
          rw [if_neg h2, if_neg (by omega), if_neg (by omega)]
theorem cf_eq {a b c d : Nat} (ha : a < 2 ^ 63) (hc : c < 2 ^ 63) (hb0 : 0 < b) (hd0 : 0 < d) (hb : b < 2 ^ 63) (hd : d < 2 ^ 63) : R_M_compareFractions (i64 a) (i64 b) (i64 c) (i64 d) = some (cfV a b c d 1) := by
  unfold R_M_compareFractions
  by_cases hba : b ≤ a
  · refine cf_loop 126 a b c d fu 1 ha hc hb0 hd0 hb hd hba ?_ (by decide)
    exact Nat.lt_of_lt_of_le (Nat.mul_lt_mul'' ha hb) (by decide)
  · have m1 := Nat.mod_lt a hb0
    have m2 := Nat.mod_lt c hd0
    obtain ⟨t1, t2⟩ := cf_math (Nat.div_add_mod a b).symm m1 (Nat.div_add_mod c d).symm m2
    show RB_M_compareFractions_17 (4095 + 1) (i64 a) (i64 b) (i64 c) (i64 d) 1 = _
    rw [cf_step ha hb hc hd hb0 hd0, Nat.div_eq_of_lt (by omega)]
    unfold cfV
    have hab : a / b = 0 := Nat.div_eq_of_lt (by omega)
    by_cases h1 : 0 = c / d
    · rw [if_pos h1]
      have t5 := t2 (by omega)
      by_cases h2 : a % b = 0 ∨ c % d = 0
      · rw [if_pos h2]
        by_cases h3 : a % b = c % d
        · have h0 : a % b = 0 := by omega
          have h0' : c % d = 0 := by omega
          rw [h0, h0'] at t5
          rw [if_pos h3, if_pos (by omega)]
        · rw [if_neg h3]
          by_cases h4 : a % b = 0
          · have h5 : 0 < c % d * b := Nat.mul_pos (by omega) hb0
            rw [h4] at t5
            rw [if_pos h4, if_neg (by omega), if_neg (by omega)]
          · have h5 : 0 < a % b * d := Nat.mul_pos (by omega) hd0
            have h6 : c % d = 0 := by omega
            rw [h6] at t5
            rw [if_neg h4, if_neg (by omega), if_pos (by omega)]
      · rw [if_neg h2]
        rw [cf_loop 126 b (a % b) d (c % d) 4095 (-1) hb hd (by omega) (by omega) (by omega) (by omega) (by omega) (Nat.lt_of_lt_of_le (Nat.mul_lt_mul'' hb (show a % b < 2 ^ 63 by omega)) (by decide)) (by decide)]
        unfold cfV
        rw [cf_neg, Nat.mul_comm b, Nat.mul_comm d]
        congr 1
        by_cases h3 : c % d * b = a % b * d
        · rw [if_pos h3, if_pos (by omega)]
        · rw [if_neg h3]
          by_cases h4 : a % b * d < c % d * b
          · rw [if_pos h4, if_neg (show ¬ a * d = c * b by omega), if_neg (show ¬ c * b < a * d by omega)]
          · rw [if_neg h4, if_neg (show ¬ a * d = c * b by omega), if_pos (show c * b < a * d by omega)]
    · have h9 : 0 < c / d := Nat.pos_of_ne_zero (fun q => h1 q.symm)
      have := t1 (by rw [hab]; exact h9)
      rw [if_neg h1, if_neg (show ¬ c / d < 0 from Nat.not_lt_zero _), if_neg (show ¬ a * d = c * b by omega), if_neg (show ¬ c * b < a * d by omega)]
