/-! the least number of errors between words, as a table of natural numbers -/
def rowE (w u : Nat → Int32) (prev prev2 : Nat → Nat) (i : Nat) : Nat → Nat
  | 0 => i + 1
  | j + 1 => if 1 ≤ i ∧ 1 ≤ j ∧ w i = u (j - 1) ∧ w (i - 1) = u j then min (min (prev j + (if w i = u j then 0 else 1)) (min (prev (j + 1)) (rowE w u prev prev2 i j) + 1)) (prev2 (j - 1) + 1) else min (prev j + (if w i = u j then 0 else 1)) (min (prev (j + 1)) (rowE w u prev prev2 i j) + 1)
def tabE (w u : Nat → Int32) : Nat → (Nat → Nat) × (Nat → Nat)
  | 0 => (fun j => j, fun _ => 0)
  | i + 1 => (rowE w u (tabE w u i).1 (tabE w u i).2 i, (tabE w u i).1)
def errE (w u : Nat → Int32) (i j : Nat) : Nat := (tabE w u i).1 j
theorem errE_0 (w u : Nat → Int32) (j : Nat) : errE w u 0 j = j := rfl
theorem errE_s0 (w u : Nat → Int32) (i : Nat) : errE w u (i + 1) 0 = i + 1 := rfl
theorem errE_ss (w u : Nat → Int32) (i j : Nat) : errE w u (i + 1) (j + 1) = if 1 ≤ i ∧ 1 ≤ j ∧ w i = u (j - 1) ∧ w (i - 1) = u j then min (min (errE w u i j + (if w i = u j then 0 else 1)) (min (errE w u i (j + 1)) (errE w u (i + 1) j) + 1)) ((tabE w u i).2 (j - 1) + 1) else min (errE w u i j + (if w i = u j then 0 else 1)) (min (errE w u i (j + 1)) (errE w u (i + 1) j) + 1) := rfl
theorem tabE_2 (w u : Nat → Int32) (i j : Nat) : (tabE w u (i + 1)).2 j = errE w u i j := rfl
theorem errE_le (w u : Nat → Int32) (i : Nat) : ∀ j, errE w u i j ≤ i + j := by
  induction i with
  | zero => intro j; rw [errE_0]; omega
  | succ i ih =>
    intro j
    induction j with
    | zero => rw [errE_s0]; omega
    | succ j ihj =>
      have h1 := ih (j + 1)
      have h2 : min (errE w u i j + (if w i = u j then 0 else 1)) (min (errE w u i (j + 1)) (errE w u (i + 1) j) + 1) ≤ i + 1 + (j + 1) := by omega
      rw [errE_ss]
      split
      · exact Nat.le_trans (Nat.min_le_left _ _) h2
      · exact h2
