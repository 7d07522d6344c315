/-! bits -/
theorem i32_and (a b : Nat) : i32 a &&& i32 b = i32 (a &&& b) := by
  rw [← Int32.toBitVec_inj, Int32.toBitVec_and]
  exact BitVec.ofNat_and.symm
theorem i32_or (a b : Nat) : i32 a ||| i32 b = i32 (a ||| b) := by
  rw [← Int32.toBitVec_inj, Int32.toBitVec_or]
  exact BitVec.ofNat_or.symm
theorem i32_shr {a : Nat} (ha : a < 2 ^ 32) (k : UInt32) (hk : k.toNat < 32) : ((i32 a).toUInt32 >>> k).toInt32 = i32 (a / 2 ^ k.toNat) := by
  have e : (i32 a).toUInt32 >>> k = UInt32.ofNat (a / 2 ^ k.toNat) := by
    rw [← UInt32.toNat_inj, UInt32.toNat_shiftRight, Nat.mod_eq_of_lt hk, Nat.shiftRight_eq_div_pow]
    have e1 : (i32 a).toUInt32.toNat = a := by
      show a % 2 ^ 32 = a
      exact Nat.mod_eq_of_lt ha
    have e2 : a / 2 ^ k.toNat < 2 ^ 32 := Nat.lt_of_le_of_lt (Nat.div_le_self _ _) ha
    rw [e1]
    show _ = (a / 2 ^ k.toNat) % 2 ^ 32
    rw [Nat.mod_eq_of_lt e2]
  rw [e]
  rfl
theorem and_split (e x y : Nat) : x &&& y = 2 ^ e * ((x / 2 ^ e) &&& (y / 2 ^ e)) + ((x % 2 ^ e) &&& (y % 2 ^ e)) := by
  rw [← Nat.and_div_two_pow, ← Nat.and_mod_two_pow]
  exact (Nat.div_add_mod _ _).symm
theorem and16 (x y s : Nat) (hs : s < 16) : x &&& (16 * y + s) = 16 * ((x / 16) &&& y) + ((x % 16) &&& s) := by
  rw [and_split 4 x (16 * y + s), show 2 ^ 4 = 16 from rfl, show (16 * y + s) / 16 = y by omega, show (16 * y + s) % 16 = s by omega]
theorem and256 (x y s : Nat) (hs : s < 256) : x &&& (256 * y + s) = 256 * ((x / 256) &&& y) + ((x % 256) &&& s) := by
  rw [and_split 8 x (256 * y + s), show 2 ^ 8 = 256 from rfl, show (256 * y + s) / 256 = y by omega, show (256 * y + s) % 256 = s by omega]
def pc : Nat → Nat → Nat
  | 0, _ => 0
  | k + 1, n => n % 2 + pc k (n / 2)
theorem pc_add (k : Nat) : ∀ i m, i < k → m < 2 ^ i → pc k (m + 2 ^ i) = pc k m + 1 := by
  induction k with
  | zero => intro i m h; omega
  | succ k ih =>
    intro i m hi hm
    unfold pc
    cases i with
    | zero =>
      have : m = 0 := by simpa using hm
      subst this
      simp
      omega
    | succ i =>
      have h2 : 2 ^ (i + 1) = 2 * 2 ^ i := by rw [Nat.pow_succ]; omega
      rw [h2] at hm ⊢
      rw [show (m + 2 * 2 ^ i) % 2 = m % 2 by omega, show (m + 2 * 2 ^ i) / 2 = m / 2 + 2 ^ i by omega, ih i (m / 2) (by omega) (by omega)]
      omega
def xA : Nat → Nat → Nat
  | 0, _ => 0
  | k + 1, n => 16 * xA k (n / 16) + (n % 16 - ((n % 16 / 2) &&& 5))
def xB : Nat → Nat → Nat
  | 0, _ => 0
  | k + 1, n => 16 * xB k (n / 16) + pc 4 (n % 16)
def mk5 : Nat → Nat
  | 0 => 0
  | k + 1 => 16 * mk5 k + 5
def mk3 : Nat → Nat
  | 0 => 0
  | k + 1 => 16 * mk3 k + 3
theorem tab1 : ∀ d, d < 16 → ∀ b, b < 2 → ((d / 2 + 8 * b) &&& 5) = ((d / 2) &&& 5) ∧ ((d / 2) &&& 5) ≤ d := by decide
theorem tab2 : ∀ d, d < 16 → ∀ b, b < 4 → (((d - ((d / 2) &&& 5)) &&& 3) + ((((d - ((d / 2) &&& 5)) / 4 + 4 * b)) &&& 3)) = pc 4 d := by decide
theorem and_le (x y : Nat) : x &&& y ≤ x := Nat.and_le_left
theorem xA_eq (k : Nat) : ∀ n, n < 16 ^ k → n - ((n / 2) &&& mk5 k) = xA k n := by
  induction k with
  | zero =>
    intro n hn
    have : n = 0 := by simpa using hn
    subst this
    rfl
  | succ k ih =>
    intro n hn
    have h16 : 16 ^ (k + 1) = 16 * 16 ^ k := by rw [Nat.pow_succ]; omega
    rw [h16] at hn
    unfold xA mk5
    rw [← ih (n / 16) (by omega), and16 _ _ _ (by omega), show n / 2 / 16 = n / 16 / 2 by omega, show n / 2 % 16 = n % 16 / 2 + 8 * (n / 16 % 2) by omega]
    obtain ⟨t1, t2⟩ := tab1 (n % 16) (by omega) (n / 16 % 2) (by omega)
    rw [t1]
    have t3 := and_le (n / 16 / 2) (mk5 k)
    omega
theorem xA_lt (d : Nat) (h : d < 16) : d - ((d / 2) &&& 5) < 16 := by omega
theorem xB_eq (k : Nat) : ∀ n, (xA k n &&& mk3 k) + ((xA k n / 4) &&& mk3 k) = xB k n := by
  induction k with
  | zero =>
    intro n
    show (0 &&& 0) + ((0 / 4) &&& 0) = 0
    rfl
  | succ k ih =>
    intro n
    unfold xA xB mk3
    rw [← ih (n / 16)]
    have hg : n % 16 - ((n % 16 / 2) &&& 5) < 16 := by omega
    have t2 := tab2 (n % 16) (by omega) (xA k (n / 16) % 4) (by omega)
    generalize n % 16 - ((n % 16 / 2) &&& 5) = g at *
    rw [and16 _ _ _ (by omega), and16 _ _ _ (by omega), show (16 * xA k (n / 16) + g) / 16 = xA k (n / 16) by omega, show (16 * xA k (n / 16) + g) % 16 = g by omega, show (16 * xA k (n / 16) + g) / 4 / 16 = xA k (n / 16) / 4 by omega, show (16 * xA k (n / 16) + g) / 4 % 16 = g / 4 + 4 * (xA k (n / 16) % 4) by omega, ← t2]
    omega
theorem pc4_le (d : Nat) : pc 4 d ≤ 4 := by
  show d % 2 + (d / 2 % 2 + (d / 2 / 2 % 2 + (d / 2 / 2 / 2 % 2 + 0))) ≤ 4
  omega
theorem pc_split (k n : Nat) : pc (k + 4) n = pc 4 (n % 16) + pc k (n / 16) := by
  show n % 2 + (n / 2 % 2 + (n / 2 / 2 % 2 + (n / 2 / 2 / 2 % 2 + pc k (n / 2 / 2 / 2 / 2)))) = (n % 16 % 2 + (n % 16 / 2 % 2 + (n % 16 / 2 / 2 % 2 + (n % 16 / 2 / 2 / 2 % 2 + 0)))) + pc k (n / 16)
  rw [show n / 2 / 2 / 2 / 2 = n / 16 by omega]
  omega
theorem xA_le (k : Nat) : ∀ n, xA k n ≤ n := by
  induction k with
  | zero => intro n; exact Nat.zero_le _
  | succ k ih =>
    intro n
    have := ih (n / 16)
    unfold xA
    omega
theorem dg16 {s t : Nat} (h : s < 16) : (16 * t + s) % 16 = s ∧ (16 * t + s) / 16 = t := by omega
theorem yy16 (X Y p q : Nat) : (16 * X + p) + (16 * Y + q) = 16 * (X + Y) + (p + q) := by omega
theorem dg256 (z : Nat) : z / 256 = z / 16 / 16 := by omega
theorem bits_sum (c0 c1 c2 c3 : Nat) : 256 * (256 * (256 * (256 * 0 + c3) + c2) + c1) + c0 = c0 + 256 * c1 + 65536 * c2 + 16777216 * c3 := by omega
theorem bits_fin {p0 p1 p2 p3 p4 p5 p6 p7 : Nat} (h0 : p0 ≤ 4) (h1 : p1 ≤ 4) (h2 : p2 ≤ 4) (h3 : p3 ≤ 4) (h4 : p4 ≤ 4) (h5 : p5 ≤ 4) (h6 : p6 ≤ 4) (h7 : p7 ≤ 4) {x y : Nat} (hx : x = 16 * (16 * (16 * (16 * (16 * (16 * (16 * (16 * 0 + p7) + p6) + p5) + p4) + p3) + p2) + p1) + p0) (hy : y = x + x / 16) : y &&& 252645135 = (p0 + p1) + 256 * (p2 + p3) + 65536 * (p4 + p5) + 16777216 * (p6 + p7) := by
  have a15 : ∀ z, z % 256 &&& 15 = z % 16 := fun z => by
    rw [show 15 = 2 ^ 4 - 1 from rfl, Nat.and_two_pow_sub_one_eq_mod]
    omega
  have hs : ∀ {p q : Nat}, p ≤ 4 → q ≤ 4 → p + q < 16 := fun a b => by omega
  rw [show 252645135 = 256 * (256 * (256 * (256 * 0 + 15) + 15) + 15) + 15 from rfl, and256 _ _ _ (by decide), and256 _ _ _ (by decide), and256 _ _ _ (by decide), and256 _ _ _ (by decide), a15, a15, a15, a15, Nat.and_zero]
  have e1 : x / 16 = 16 * (16 * (16 * (16 * (16 * (16 * (16 * 0 + p7) + p6) + p5) + p4) + p3) + p2) + p1 := by
    rw [hx]
    exact (dg16 (by omega)).2
  rw [e1, hx, yy16] at hy
  have d0 : y % 16 = p0 + p1 := by
    rw [hy]
    exact (dg16 (hs h0 h1)).1
  have q1 : y / 256 = (16 * (16 * (16 * (16 * (16 * (16 * 0 + p7) + p6) + p5) + p4) + p3) + p2) + (16 * (16 * (16 * (16 * (16 * 0 + p7) + p6) + p5) + p4) + p3) := by
    rw [hy, dg256, (dg16 (hs h0 h1)).2, yy16, (dg16 (hs h1 h2)).2]
  rw [q1, yy16]
  have q2 : (16 * (16 * (16 * (16 * (16 * (16 * 0 + p7) + p6) + p5) + p4) + p3 + (16 * (16 * (16 * (16 * 0 + p7) + p6) + p5) + p4)) + (p2 + p3)) / 256 = (16 * (16 * (16 * (16 * 0 + p7) + p6) + p5) + p4) + (16 * (16 * (16 * 0 + p7) + p6) + p5) := by
    rw [dg256, (dg16 (hs h2 h3)).2, yy16, (dg16 (hs h3 h4)).2]
  rw [q2, (dg16 (hs h2 h3)).1, yy16]
  have q3 : (16 * (16 * (16 * (16 * 0 + p7) + p6) + p5 + (16 * (16 * 0 + p7) + p6)) + (p4 + p5)) / 256 = (16 * (16 * 0 + p7) + p6) + (16 * 0 + p7) := by
    rw [dg256, (dg16 (hs h4 h5)).2, yy16, (dg16 (hs h5 h6)).2]
  rw [q3, (dg16 (hs h4 h5)).1, yy16, (dg16 (hs h6 h7)).1, d0, bits_sum]
theorem bits_end {c0 c1 c2 c3 x : Nat} (h0 : c0 ≤ 8) (h1 : c1 ≤ 8) (h2 : c2 ≤ 8) (h3 : c3 ≤ 8) (hx : x = c0 + 256 * c1 + 65536 * c2 + 16777216 * c3) : (x + x / 256 + (x + x / 256) / 65536) % 64 = c0 + c1 + c2 + c3 := by
  have e1 : x / 256 = c1 + 256 * c2 + 65536 * c3 := by omega
  have e2 : (x + x / 256) / 65536 = (c2 + c3) + 256 * c3 := by omega
  rw [e2, e1]
  omega
theorem eight (a b c d e f g h : Nat) : a + b + (c + d) + (e + f) + (g + h) = a + (b + (c + (d + (e + (f + (g + (h + 0))))))) := by omega
theorem bitCount_eq {n : Nat} (hn : n < 2 ^ 30) (μ : Mem) : S_In_bitCount (i32 n) μ = some (i32 (pc 32 n)) := by
  have m5 : mk5 8 = 1431655765 := rfl
  have m3 : mk3 8 = 858993459 := rfl
  have a1 := xA_eq 8 n (by omega)
  have a2 := xB_eq 8 n
  have ale := xA_le 8 n
  rw [m5] at a1
  rw [m3] at a2
  have hp : pc 32 n = pc 4 (n % 16) + (pc 4 (n / 16 % 16) + (pc 4 (n / 16 / 16 % 16) + (pc 4 (n / 16 / 16 / 16 % 16) + (pc 4 (n / 16 / 16 / 16 / 16 % 16) + (pc 4 (n / 16 / 16 / 16 / 16 / 16 % 16) + (pc 4 (n / 16 / 16 / 16 / 16 / 16 / 16 % 16) + (pc 4 (n / 16 / 16 / 16 / 16 / 16 / 16 / 16 % 16) + 0))))))) := by
    rw [pc_split 28, pc_split 24, pc_split 20, pc_split 16, pc_split 12, pc_split 8, pc_split 4, pc_split 0 (n / 16 / 16 / 16 / 16 / 16 / 16 / 16)]
    rfl
  have hB : xB 8 n = 16 * (16 * (16 * (16 * (16 * (16 * (16 * (16 * 0 + pc 4 (n / 16 / 16 / 16 / 16 / 16 / 16 / 16 % 16)) + pc 4 (n / 16 / 16 / 16 / 16 / 16 / 16 % 16)) + pc 4 (n / 16 / 16 / 16 / 16 / 16 % 16)) + pc 4 (n / 16 / 16 / 16 / 16 % 16)) + pc 4 (n / 16 / 16 / 16 % 16)) + pc 4 (n / 16 / 16 % 16)) + pc 4 (n / 16 % 16)) + pc 4 (n % 16) := rfl
  have l0 := pc4_le (n % 16)
  have l1 := pc4_le (n / 16 % 16)
  have l2 := pc4_le (n / 16 / 16 % 16)
  have l3 := pc4_le (n / 16 / 16 / 16 % 16)
  have l4 := pc4_le (n / 16 / 16 / 16 / 16 % 16)
  have l5 := pc4_le (n / 16 / 16 / 16 / 16 / 16 % 16)
  have l6 := pc4_le (n / 16 / 16 / 16 / 16 / 16 / 16 % 16)
  have l7 := pc4_le (n / 16 / 16 / 16 / 16 / 16 / 16 / 16 % 16)
  have hfin := bits_fin l0 l1 l2 l3 l4 l5 l6 l7 hB rfl
  have hend := bits_end (c0 := pc 4 (n % 16) + pc 4 (n / 16 % 16)) (c1 := pc 4 (n / 16 / 16 % 16) + pc 4 (n / 16 / 16 / 16 % 16)) (c2 := pc 4 (n / 16 / 16 / 16 / 16 % 16) + pc 4 (n / 16 / 16 / 16 / 16 / 16 % 16)) (c3 := pc 4 (n / 16 / 16 / 16 / 16 / 16 / 16 % 16) + pc 4 (n / 16 / 16 / 16 / 16 / 16 / 16 / 16 % 16)) (by omega) (by omega) (by omega) (by omega) hfin
  have xBb : xB 8 n < 2 ^ 31 + 2 ^ 30 := by
    generalize pc 4 (n / 16 / 16 / 16 / 16 / 16 / 16 / 16 % 16) = p7 at *
    generalize pc 4 (n / 16 / 16 / 16 / 16 / 16 / 16 % 16) = p6 at *
    generalize pc 4 (n / 16 / 16 / 16 / 16 / 16 % 16) = p5 at *
    generalize pc 4 (n / 16 / 16 / 16 / 16 % 16) = p4 at *
    generalize pc 4 (n / 16 / 16 / 16 % 16) = p3 at *
    generalize pc 4 (n / 16 / 16 % 16) = p2 at *
    generalize pc 4 (n / 16 % 16) = p1 at *
    generalize pc 4 (n % 16) = p0 at *
    omega
  unfold S_In_bitCount
  rw [b0_eq, b0_eq, b0_eq, b0_eq, b0_eq]
  have k1 : ((1 : Int32).toUInt32 &&& Int32.toUInt32 31).toNat = 1 := by decide
  have k2 : ((2 : Int32).toUInt32 &&& Int32.toUInt32 31).toNat = 2 := by decide
  have k4 : ((4 : Int32).toUInt32 &&& Int32.toUInt32 31).toNat = 4 := by decide
  have k8 : ((8 : Int32).toUInt32 &&& Int32.toUInt32 31).toNat = 8 := by decide
  have k16 : ((16 : Int32).toUInt32 &&& Int32.toUInt32 31).toNat = 16 := by decide
  have s1 : i32 n - ((((i32 n).toUInt32 >>> ((1 : Int32).toUInt32 &&& Int32.toUInt32 31)).toInt32) &&& 1431655765) = i32 (xA 8 n) := by
    rw [i32_shr (by omega) _ (by rw [k1]; decide), k1, show (1431655765 : Int32) = i32 1431655765 from rfl, i32_and, i32_sub (Nat.le_trans (and_le _ _) (by omega)), ← a1]
  rw [s1]
  have s2 : (i32 (xA 8 n) &&& 858993459) + ((((i32 (xA 8 n)).toUInt32 >>> ((2 : Int32).toUInt32 &&& Int32.toUInt32 31)).toInt32) &&& 858993459) = i32 (xB 8 n) := by
    rw [i32_shr (by omega) _ (by rw [k2]; decide), k2, show (858993459 : Int32) = i32 858993459 from rfl, i32_and, i32_and, i32_add, ← a2]
  rw [s2]
  have s3 : (i32 (xB 8 n) + (((i32 (xB 8 n)).toUInt32 >>> ((4 : Int32).toUInt32 &&& Int32.toUInt32 31)).toInt32)) &&& 252645135 = i32 ((xB 8 n + xB 8 n / 16) &&& 252645135) := by
    rw [i32_shr (by omega) _ (by rw [k4]; decide), k4, show (252645135 : Int32) = i32 252645135 from rfl, i32_add, i32_and]
  rw [s3]
  have hle : (xB 8 n + xB 8 n / 16) &&& 252645135 ≤ 252645135 := Nat.and_le_right
  generalize (xB 8 n + xB 8 n / 16) &&& 252645135 = X at *
  rw [i32_shr (by omega) _ (by rw [k8]; decide), k8, i32_add, i32_shr (by omega) _ (by rw [k16]; decide), k16, i32_add, show (63 : Int32) = i32 63 from rfl, i32_and, show 63 = 2 ^ 6 - 1 from rfl, Nat.and_two_pow_sub_one_eq_mod, show 2 ^ 8 = 256 from rfl, show 2 ^ 16 = 65536 from rfl, show 2 ^ 6 = 64 from rfl, hend, hp, eight]
theorem bit_k : ∀ k, k < 30 → (i32 k &&& 31) = i32 k ∧ ((1 : Int32) <<< i32 k) = i32 (2 ^ k) := by decide
theorem or_bit {m k : Nat} (hm : m < 2 ^ k) (hk : k < 30) : i32 m ||| ((1 : Int32) <<< (i32 k &&& 31)) = i32 (m + 2 ^ k) := by
  rw [(bit_k k hk).1, (bit_k k hk).2, i32_or]
  congr 1
  have := Nat.two_pow_add_eq_or_of_lt hm 1
  rw [Nat.mul_one] at this
  rw [Nat.or_comm, ← this, Nat.add_comm]
