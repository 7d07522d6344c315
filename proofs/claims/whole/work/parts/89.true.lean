theorem law_true (hd : HD) (N L : Nat) (xs : Nat → Int32) (hL : L ≤ 3072) (hD : hd.1 < N) : ∃ (x0 : Option Nat) (bm : Nat) (x17 : Option Nat) (ρ : RS) (μ1 : Mem), S_law (hd, N, N, fun _ => none) = some ((x0, some bm, x17), μ1) ∧ ov bm ρ μ1 = μ1 ∧ LB_23 xs L x0 x17 bm 513 0 ρ μ1 := by
  obtain ⟨b, c, v, ρ, μ1, h1, h2, h3⟩ := law_begin hd N hD
  have h := law_run (all_calls b c v) xs L hL 513 0 ρ μ1 rfl (Nat.zero_le _) h3
  rw [show i32 (6 * 0) = 0 from rfl] at h
  exact ⟨some c, b, some v, ρ, μ1, h1, h2, h⟩
