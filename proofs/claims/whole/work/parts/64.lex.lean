/-! ranks have the order of the words -/
def dig (n : Nat) (d : Nat → Nat) (k : Nat) : Nat := if k < n then d k + 1 else 0
theorem rk_acc (n : Nat) (d : Nat → Nat) (m : Nat) : ∀ k acc, rkN n d m k acc = acc * 27 ^ m + rkN n d m k 0 := by
  induction m with
  | zero => intro k acc; show acc = acc * 1 + 0; omega
  | succ m ih =>
    intro k acc
    show rkN n d m (k + 1) (acc * 27 + dig n d k) = acc * 27 ^ (m + 1) + rkN n d m (k + 1) (0 * 27 + dig n d k)
    rw [ih (k + 1) (acc * 27 + dig n d k), ih (k + 1) (0 * 27 + dig n d k), Nat.pow_succ, Nat.add_mul, Nat.zero_mul, Nat.zero_add, Nat.mul_assoc, Nat.mul_comm 27 (27 ^ m), Nat.add_assoc]
theorem rk_lt {n : Nat} {d : Nat → Nat} (hd : ∀ k, k < n → d k < 26) (m : Nat) : ∀ k, rkN n d m k 0 < 27 ^ m := by
  induction m with
  | zero => intro k; exact Nat.one_pos
  | succ m ih =>
    intro k
    show rkN n d m (k + 1) (0 * 27 + dig n d k) < _
    rw [rk_acc, Nat.zero_mul, Nat.zero_add, Nat.pow_succ]
    have h1 : dig n d k ≤ 26 := by
      unfold dig
      split
      · have := hd k (by assumption); omega
      · omega
    have h2 := ih (k + 1)
    have h3 : dig n d k * 27 ^ m ≤ 26 * 27 ^ m := Nat.mul_le_mul_right _ h1
    omega
def lexLt (D E : Nat → Nat) : Nat → Nat → Bool
  | 0, _ => false
  | m + 1, k => if D k = E k then lexLt D E m (k + 1) else decide (D k < E k)
theorem rk_lex {n n' : Nat} {d d' : Nat → Nat} (hd : ∀ k, k < n → d k < 26) (hd' : ∀ k, k < n' → d' k < 26) (m : Nat) : ∀ k, (rkN n d m k 0 < rkN n' d' m k 0) ↔ lexLt (dig n d) (dig n' d') m k = true := by
  induction m with
  | zero => intro k; constructor
            · intro h; exact absurd h (Nat.lt_irrefl _)
            · intro h; cases h
  | succ m ih =>
    intro k
    show (rkN n d m (k + 1) (0 * 27 + dig n d k) < rkN n' d' m (k + 1) (0 * 27 + dig n' d' k)) ↔ (if dig n d k = dig n' d' k then lexLt (dig n d) (dig n' d') m (k + 1) else decide (dig n d k < dig n' d' k)) = true
    rw [rk_acc n d, rk_acc n' d', Nat.zero_mul, Nat.zero_add, Nat.zero_add]
    have h1 := rk_lt hd m (k + 1)
    have h2 := rk_lt hd' m (k + 1)
    by_cases he : dig n d k = dig n' d' k
    · rw [if_pos he, ← ih (k + 1), he]
      omega
    · rw [if_neg he, decide_eq_true_iff]
      rcases Nat.lt_or_gt_of_ne he with h | h
      · have h3 : (dig n d k + 1) * 27 ^ m ≤ dig n' d' k * 27 ^ m := Nat.mul_le_mul_right _ h
        rw [Nat.add_mul, Nat.one_mul] at h3
        constructor
        · intro _; exact h
        · intro _; omega
      · have h3 : (dig n' d' k + 1) * 27 ^ m ≤ dig n d k * 27 ^ m := Nat.mul_le_mul_right _ h
        rw [Nat.add_mul, Nat.one_mul] at h3
        constructor
        · intro q; omega
        · intro q; omega
