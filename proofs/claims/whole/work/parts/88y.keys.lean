/-! the keys of an order -/
theorem rgL_at {ρ : RS} {k n j : Nat} (h : j < n) (hn : n < 2 ^ 31) : rgL ρ k n (i32 j) = some (rL ρ k j) := by
  unfold rgL
  rw [i32_nat (by omega), if_neg]
  intro q
  rcases q with q | q
  · exact i32_nn (by omega) q
  · omega
theorem rsL_at {ρ : RS} {k n j : Nat} {x : Int64} (h : j < n) (hn : n < 2 ^ 31) : rsL ρ k n (i32 j) x = some (rsetL ρ k (vp_updL (rL ρ k) j x)) := by
  unfold rsL
  rw [i32_nat (by omega), if_neg]
  intro q
  rcases q with q | q
  · exact i32_nn (by omega) q
  · omega
theorem ltn64 {a b : Nat} (ha : a < 2 ^ 63) (hb : b < 2 ^ 63) : (i64 a < i64 b) ↔ a < b := by
  rw [Int64.lt_iff_toInt_lt, i64_int ha, i64_int hb]
  omega
theorem ne_m1 {q : Nat} (h : q < 2 ^ 31) : ¬ i32 q = -1 := fun z => by
  have := i32_int h
  rw [z] at this
  have e : (-1 : Int32).toInt = -1 := rfl
  omega
abbrev rX (ρ : RS) : Nat → Int32 := fun k => ra ρ 31 (8 * 0 + k)
abbrev rY (ρ : RS) : Nat → Int32 := fun k => ra ρ 32 (8 * 0 + k)
def KR1 (ρ : RS) (κ : Int64) (j : Nat) : Prop := (ra ρ 50 j = -1 ∧ κ = i64 1152921504606846976) ∨ ∃ q len, q < 60 ∧ ra ρ 50 j = i32 q ∧ ra ρ 12 q = i32 len ∧ ltr len (fun i => ra ρ 13 (10 * q + i)) ∧ κ = i64 (nrk ρ q len)
def KR3 (ρ : RS) (κ : Int64) (j : Nat) : Prop := ∃ n, ra ρ 30 0 = i32 n ∧ n ≤ 8 ∧ ((n ≤ 1 ∧ κ = 0) ∨ (2 ≤ n ∧ ∃ s A, s < 8 ∧ A ≤ 33538050 ∧ 0 < cL (rX ρ) (rY ρ) s ∧ cL (rX ρ) (rY ρ) s ≤ 33538050 ∧ ra ρ 52 j = i32 s ∧ rL ρ 53 j = i64 A ∧ rL ρ 54 j = i64 (cL (rX ρ) (rY ρ) s) ∧ κ = i64 (s * 4294967296 + A)))
def KRq (o : Int32) (ρ : RS) (κ : Int64) (j : Nat) : Prop := (o = 0 ∧ κ = 0) ∨ (o = 1 ∧ KR1 ρ κ j) ∨ (o = 2 ∧ κ = (ra ρ 51 j).toInt64) ∨ (o = 3 ∧ KR3 ρ κ j)
def kyR (ρ ρ' : RS) (j : Nat) : Prop := ra ρ' 50 j = ra ρ 50 j ∧ ra ρ' 51 j = ra ρ 51 j ∧ ra ρ' 52 j = ra ρ 52 j ∧ rL ρ' 53 j = rL ρ 53 j ∧ rL ρ' 54 j = rL ρ 54 j
theorem KRq.keep {o : Int32} {ρ ρ' : RS} {κ : Int64} {j : Nat} (h : KRq o ρ κ j) (e : frR ρ ρ') (k : kyR ρ ρ' j) : KRq o ρ' κ j := by
  unfold KRq KR1 KR3 nrk rX rY at *
  rw [k.1, k.2.1, k.2.2.1, k.2.2.2.1, k.2.2.2.2, e.2 12 (by decide), e.2 13 (by decide), e.2 30 (by decide), e.2 31 (by decide), e.2 32 (by decide)]
  exact h
theorem nrk_lt {ρ : RS} {q len : Nat} (h : ltr len (fun j => ra ρ 13 (10 * q + j))) : nrk ρ q len < 1152921504606846976 := Nat.lt_of_lt_of_le (rk_lt (dgt_lt h) 10 0) (by decide)
theorem le_not {x : Int32} : x ≤ 0 ↔ ¬ 0 < x := by rw [i32_nlt]
theorem KRq.cmp {o : Int32} {ρ : RS} {κp κq : Int64} {p q : Nat} (hp : p < 30) (hq : q < 30) (h : KRq o ρ κp p) (k : KRq o ρ κq q) : ∃ c : Int32, R_M_compareKeys (i32 p) (i32 q) o ρ = some c ∧ (c ≤ 0 ↔ ¬ κq < κp) := by
  rcases h with ⟨rfl, h⟩ | ⟨rfl, h⟩ | ⟨rfl, h⟩ | ⟨rfl, h⟩
  · rcases k with ⟨_, k⟩ | ⟨z, _⟩ | ⟨z, _⟩ | ⟨z, _⟩
    · rw [h, k]
      exact ⟨0, rfl, ⟨fun _ => Int64.lt_irrefl, fun _ => by decide⟩⟩
    all_goals exact absurd z (by decide)
  · rcases k with ⟨z, _⟩ | ⟨_, k⟩ | ⟨z, _⟩ | ⟨z, _⟩
    case inr.inl =>
      unfold R_M_compareKeys
      rw [if_pos rfl, rgI_at hp (by decide), b1_some, rgI_at hq (by decide), b1_some]
      rcases h with ⟨h1, h2⟩ | ⟨a, la, a1, a2, a3, a4, a5⟩
      · rcases k with ⟨k1, k2⟩ | ⟨b, lb, b1', b2, b3, b4, b5⟩
        · rw [if_pos h1, if_pos k1, h2, k2]
          exact ⟨0, rfl, ⟨fun _ => Int64.lt_irrefl, fun _ => by decide⟩⟩
        · have := nrk_lt b4
          rw [if_pos h1, if_neg (by rw [b2]; exact ne_m1 (by omega)), h2, b5, ltn64 (by omega) (by omega)]
          exact ⟨1, rfl, ⟨fun z => absurd z (by decide), fun z => by omega⟩⟩
      · have ha := nrk_lt a4
        rw [if_neg (by rw [a2]; exact ne_m1 (by omega))]
        rcases k with ⟨k1, k2⟩ | ⟨b, lb, b1', b2, b3, b4, b5⟩
        · rw [if_pos k1, k2, a5, ltn64 (by omega) (by omega)]
          exact ⟨-1, rfl, ⟨fun _ => by omega, fun _ => by decide⟩⟩
        · have hb := nrk_lt b4
          rw [if_neg (by rw [b2]; exact ne_m1 (by omega)), a2, b2, b5, a5, ltn64 (by omega) (by omega)]
          obtain ⟨x, x1, x2, x3⟩ := compareWords_eq a1 b1' a3 b3 a4 b4
          rw [x1, b1_some]
          exact ⟨x, rfl, le_not.trans (not_congr x3)⟩
    all_goals exact absurd z (by decide)
  · rcases k with ⟨z, _⟩ | ⟨z, _⟩ | ⟨_, k⟩ | ⟨z, _⟩
    case inr.inr.inl =>
      obtain ⟨c, c1, c2⟩ := cmp2 (ρ := ρ) hp hq
      exact ⟨c, c1, c2.trans (by rw [h, k, i64_lt])⟩
    all_goals exact absurd z (by decide)
  · rcases k with ⟨z, _⟩ | ⟨z, _⟩ | ⟨z, _⟩ | ⟨_, k⟩
    case inr.inr.inr =>
      obtain ⟨n, n1, n2, h⟩ := h
      obtain ⟨n', n1', n2', k⟩ := k
      have hnn : n' = n := by
        rw [n1] at n1'
        exact ((i32_inj (by omega) (by omega)).mp n1').symm
      subst hnn
      unfold R_M_compareKeys
      rw [if_neg (by decide), if_neg (by decide), if_neg (by decide), show rgI ρ 30 5 0 = some (i32 n') from by rw [show (0 : Int32) = i32 0 from rfl, rgI_at (by decide) (by decide), n1], b1_some]
      rcases h with ⟨h1, h2⟩ | ⟨h1, s, A, s1, s2, s3, s4, s5, s6, s7, s8⟩
      · rcases k with ⟨k1, k2⟩ | ⟨k1, _⟩
        · rw [if_neg (fun z => by have := (i32_le (a := 2) (by omega) (by omega)).mp z; omega), h2, k2]
          exact ⟨0, rfl, ⟨fun _ => Int64.lt_irrefl, fun _ => by decide⟩⟩
        · omega
      · rcases k with ⟨k1, _⟩ | ⟨k1, t, B, t1, t2, t3, t4, t5, t6, t7, t8⟩
        · omega
        · rw [if_pos (show (2 : Int32) ≤ i32 n' from (i32_le (a := 2) (by omega) (by omega)).mpr h1), rgI_at hp (by decide), b1_some, rgI_at hq (by decide), b1_some, s5, t5, s8, t8, ltn64 (by omega) (by omega)]
          by_cases hst : s = t
          · subst hst
            rw [if_pos rfl, rgL_at hp (by decide), b1_some, rgL_at hp (by decide), b1_some, rgL_at hq (by decide), b1_some, rgL_at hq (by decide), b1_some, s6, s7, t6, t7, cf_eq (by omega) (by omega) s3 s3 (by omega) (by omega), b1_some]
            refine ⟨_, rfl, ?_⟩
            have e1 : (A * cL (rX ρ) (rY ρ) s = B * cL (rX ρ) (rY ρ) s) ↔ A = B := Nat.mul_left_inj (by omega)
            have e2 : (B * cL (rX ρ) (rY ρ) s < A * cL (rX ρ) (rY ρ) s) ↔ B < A := Nat.mul_lt_mul_right s3
            unfold cfV
            by_cases c1 : A = B
            · rw [if_pos (e1.mpr c1)]
              exact ⟨fun _ => by omega, fun _ => by decide⟩
            · rw [if_neg (fun z => c1 (e1.mp z))]
              by_cases c2 : B < A
              · rw [if_pos (e2.mpr c2)]
                exact ⟨fun z => absurd z (by decide), fun z => by omega⟩
              · rw [if_neg (fun z => c2 (e2.mp z))]
                exact ⟨fun _ => by omega, fun _ => by decide⟩
          · rw [if_neg (fun z => hst ((i32_inj (by omega) (by omega)).mp z)), b1_some, b1_some]
            refine ⟨_, rfl, ?_⟩
            have sg := (sub_sg (a := i32 s) (b := i32 t) (by rw [i32_int (by omega)]; omega) (by rw [i32_int (by omega)]; omega)).2
            rw [i32_int (by omega), i32_int (by omega)] at sg
            rw [le_not, sg]
            omega
    all_goals exact absurd z (by decide)
