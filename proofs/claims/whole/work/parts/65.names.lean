/-! names of a day; spans that meet -/
def NA6 (μ : Mem) (a wo : Nat) (f t : Int32) : Prop := mF μ a = some (.inr (6, [.ref wo, .int f, .int t]))
theorem Na_isOf_eq {μ : Mem} {a wo : Nat} {f t : Int32} (h : NA6 μ a wo f t) (day : Int32) : S_Na_isOf (some a) day μ = some (bI (f ≤ day ∧ day ≤ t)) := by
  unfold NA6 at h
  unfold S_Na_isOf B_Na_isOf_20 B_Na_isOf_21
  rw [gI_at h (k := 1) rfl, b1_some]
  by_cases h1 : day < f
  · rw [if_pos h1, bI_neg (fun q => absurd h1 (i32_nlt.mpr q.1))]
    exact gd0
  · rw [if_neg h1, gI_at h (k := 2) rfl, b1_some]
    by_cases h2 : t < day
    · rw [if_pos h2, bI_neg (fun q => absurd h2 (i32_nlt.mpr q.2))]
      exact gd0
    · rw [if_neg h2, bI_pos ⟨i32_nlt.mp h1, i32_nlt.mp h2⟩]
      exact gd1
theorem R_isOf_eq {ρ : RS} {n : Nat} (hn : n < 60) (day : Int32) : R_M_isOf (i32 n) day ρ = some (bI (ra ρ 10 n ≤ day ∧ day ≤ ra ρ 11 n)) := by
  unfold R_M_isOf
  rw [rgI_at (ρ := ρ) (k := 10) (n := 60) (j := n) hn (by omega), b1_some, rgI_at (ρ := ρ) (k := 11) (n := 60) (j := n) hn (by omega), b1_some, R_in, b1_some, gd_bI]
def anyF (F T : Nat → Int32) (a b : Int32) : Nat → Nat → Bool
  | 0, _ => false
  | m + 1, k => if F k ≤ b ∧ a ≤ T k then true else anyF F T a b m (k + 1)
theorem Pl_linked {μ : Mem} {a sh sd nm lk n ad : Nat} {num kind rem : Int32} {li ab : Nat → Nat} {F T : Nat → Int32} (hp : mF μ a = some (.inr (7, PC7 num kind rem sh sd nm lk))) (hl : AL μ lk n li ad) (hc : ∀ k, k < n → LK5 μ (li k) (ab k) (F k) (T k)) (v1 v2 : Int32) (m : Nat) : ∀ (k fuel : Nat), k + m = n → m < fuel → B_Pl_isLinkedWithin_2 μ fuel (some a) v1 v2 (i32 k) = some (bI (anyF F T v1 v2 m k = true)) := by
  have g6 : gR μ (some a) 7 6 = some (some lk) := gR_at hp rfl
  have h33 := hl.le
  induction m with
  | zero =>
    intro k fuel hk hf
    cases fuel with
    | zero => omega
    | succ fuel =>
      show b1 (gR μ (some a) 7 6) _ = _
      rw [g6, b1_some, hl.rc, b1_some, Al_size_eq hl, b1_some, if_pos ((i32_le (by omega) (by omega)).mpr (by omega)), bI_neg (show ¬ (anyF F T v1 v2 0 k = true) from fun q => by cases q)]
      exact gd0
  | succ m ih =>
    intro k fuel hk hf
    cases fuel with
    | zero => omega
    | succ fuel =>
      have hL := hc k (by omega)
      have hc5 : mF μ (li k) = some (.inr (5, [.ref (ab k), .int (F k), .int (T k)])) := hL
      show b1 (gR μ (some a) 7 6) _ = _
      rw [g6, b1_some, hl.rc, b1_some, Al_size_eq hl, b1_some, if_neg (fun e => by have := (i32_le (by omega) (by omega)).mp e; omega)]
      simp only [b1_some, hl.rc, Al_get_eq hl (show k < n by omega), cK_at hc5, rc_at hc5, Li_isWithin_eq hL, bI_if]
      show _ = some (bI ((if F k ≤ v2 ∧ v1 ≤ T k then true else anyF F T v1 v2 m (k + 1)) = true))
      by_cases hq : F k ≤ v2 ∧ v1 ≤ T k
      · rw [if_pos hq, bI_pos (by rw [if_pos hq])]
        exact gd1
      · rw [if_neg hq, i32_succ]
        simp only [if_neg hq]
        exact ih (k + 1) fuel (by omega) (by omega)
theorem Pl_isLinkedWithin_eq {μ : Mem} {a sh sd nm lk n ad : Nat} {num kind rem : Int32} {li ab : Nat → Nat} {F T : Nat → Int32} (hp : mF μ a = some (.inr (7, PC7 num kind rem sh sd nm lk))) (hl : AL μ lk n li ad) (hc : ∀ k, k < n → LK5 μ (li k) (ab k) (F k) (T k)) (v1 v2 : Int32) : S_Pl_isLinkedWithin (some a) v1 v2 μ = some (bI (anyF F T v1 v2 n 0 = true)) := by
  have h33 := hl.le
  exact Pl_linked hp hl hc v1 v2 n 0 fu (by omega) (by unfold fu; omega)
