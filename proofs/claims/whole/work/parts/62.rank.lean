/-! a word's rank; does it begin with another -/
/-- digits of base 27 from k on, m of them -/
def rkN (n : Nat) (d : Nat → Nat) : Nat → Nat → Nat → Nat
  | 0, _, acc => acc
  | m + 1, k, acc => rkN n d m (k + 1) (acc * 27 + (if k < n then d k + 1 else 0))
theorem i64_mul27 (x : Nat) : Int64.ofNat x * 27 = Int64.ofNat (x * 27) := by
  rw [show (27 : Int64) = Int64.ofNat 27 from rfl, Int64.ofNat_mul]
theorem Wo_rk {μ : Mem} {a n : Nat} {w : Nat → Int32} {d : Nat → Nat} (h : WO μ a n w) (hd : ∀ k, k < n → d k < 26 ∧ w k = i32 (97 + d k)) (m : Nat) : ∀ (k acc fuel : Nat), k + m = 10 → m < fuel → B_Wo_rank_4 μ fuel (some a) (Int64.ofNat acc) (i32 k) = some (Int64.ofNat (rkN n d m k acc)) := by
  obtain ⟨al, g1, g0, g3, g4, h10⟩ := h.v
  induction m with
  | zero =>
    intro k acc fuel hk hf
    cases fuel with
    | zero => omega
    | succ fuel =>
      show (if (10 : Int32) ≤ i32 k then _ else _) = _
      rw [if_pos (show (10 : Int32) ≤ i32 k from (i32_le (a := 10) (b := k) (by omega) (by omega)).mpr (by omega))]
      rfl
  | succ m ih =>
    intro k acc fuel hk hf
    cases fuel with
    | zero => omega
    | succ fuel =>
      show (if (10 : Int32) ≤ i32 k then _ else _) = _
      rw [if_neg (show ¬ ((10 : Int32) ≤ i32 k) from fun e => by have := (i32_le (a := 10) (b := k) (by omega) (by omega)).mp e; omega), g1, b1_some]
      show _ = some (Int64.ofNat (rkN n d m (k + 1) (acc * 27 + (if k < n then d k + 1 else 0))))
      unfold B_Wo_rank_38
      by_cases hkn : k < n
      · rw [if_neg (fun e => by have := (i32_le (by omega) (by omega)).mp e; omega), g0, b1_some, g4 k hkn, b1_some, b0_eq, if_pos hkn, (hd k hkn).2, i32_succ, i64_mul27]
        have h26 := (hd k hkn).1
        have e : (i32 (97 + d k) - 97 + 1).toInt64 = Int64.ofNat (d k + 1) := by
          rw [show (97 : Int32) = i32 97 from rfl, i32_sub (by omega), i32_succ, show 97 + d k - 97 + 1 = d k + 1 by omega]
          exact Int32.toInt64_ofNat' (by rw [Int32.toInt_maxValue]; omega)
        rw [e, ← Int64.ofNat_add]
        exact ih (k + 1) _ fuel (by omega) (by omega)
      · rw [if_pos ((i32_le (by omega) (by omega)).mpr (by omega)), b0_eq, if_neg hkn, i32_succ, i64_mul27]
        have e : Int64.ofNat (acc * 27) + (0 : Int32).toInt64 = Int64.ofNat (acc * 27 + 0) := by
          rw [show (0 : Int32).toInt64 = Int64.ofNat 0 from rfl, ← Int64.ofNat_add]
        rw [e]
        exact ih (k + 1) _ fuel (by omega) (by omega)
theorem Wo_rank_eq {μ : Mem} {a n : Nat} {w : Nat → Int32} {d : Nat → Nat} (h : WO μ a n w) (hd : ∀ k, k < n → d k < 26 ∧ w k = i32 (97 + d k)) : S_Wo_rank (some a) μ = some (Int64.ofNat (rkN n d 10 0 0)) :=
  Wo_rk h hd 10 0 0 fu (by omega) (by unfold fu; omega)
/-- the first m letters from k on are the same -/
def eqF (w u : Nat → Int32) : Nat → Nat → Bool
  | 0, _ => true
  | m + 1, k => if w k = u k then eqF w u m (k + 1) else false
theorem Wo_begins {μ : Mem} {a c n j : Nat} {w u : Nat → Int32} (h : WO μ a n w) (hc : WO μ c j u) (hj : j ≤ n) (m : Nat) : ∀ (k fuel : Nat), k + m = j → m < fuel → B_Wo_beginsWith_15 μ fuel (some a) (some c) (i32 k) = some (bI (eqF w u m k = true)) := by
  obtain ⟨al, g1, g0, g3, g4, h10⟩ := h.v
  obtain ⟨cl, k1, k0, k3, k4, j10⟩ := hc.v
  induction m with
  | zero =>
    intro k fuel hk hf
    cases fuel with
    | zero => omega
    | succ fuel =>
      show b1 (gI μ (some c) 10 1) _ = _
      rw [k1, b1_some, if_pos ((i32_le (by omega) (by omega)).mpr (by omega)), bI_pos (show eqF w u 0 k = true from rfl)]
      exact gd1
  | succ m ih =>
    intro k fuel hk hf
    cases fuel with
    | zero => omega
    | succ fuel =>
      show b1 (gI μ (some c) 10 1) _ = _
      rw [k1, b1_some, if_neg (fun e => by have := (i32_le (by omega) (by omega)).mp e; omega), g0, b1_some, g4 k (by omega), b1_some, k0, b1_some, k4 k (by omega), b1_some]
      show _ = some (bI ((if w k = u k then eqF w u m (k + 1) else false) = true))
      by_cases hq : w k = u k
      · rw [if_pos hq, i32_succ]
        simp only [if_pos hq]
        exact ih (k + 1) fuel (by omega) (by omega)
      · rw [if_neg hq, bI_neg (by rw [if_neg hq]; decide)]
        exact gd0
theorem Wo_beginsWith_eq {μ : Mem} {a c n j : Nat} {w u : Nat → Int32} (h : WO μ a n w) (hc : WO μ c j u) : S_Wo_beginsWith (some a) (some c) μ = some (bI (j ≤ n ∧ eqF w u j 0 = true)) := by
  obtain ⟨al, g1, g0, g3, g4, h10⟩ := h.v
  obtain ⟨cl, k1, k0, k3, k4, j10⟩ := hc.v
  unfold S_Wo_beginsWith
  rw [k1, b1_some, g1, b1_some]
  by_cases hj : j ≤ n
  · rw [if_pos ((i32_le (by omega) (by omega)).mpr hj), show (0 : Int32) = i32 0 from rfl, Wo_begins h hc hj j 0 fu (by omega) (by unfold fu; omega)]
    by_cases he : eqF w u j 0 = true
    · rw [bI_pos he, bI_pos ⟨hj, he⟩]
    · rw [bI_neg he, bI_neg (fun q => he q.2)]
  · rw [if_neg (fun e => hj ((i32_le (by omega) (by omega)).mp e)), bI_neg (fun q => hj q.1)]
    exact gd0
