/-! parents -/
def LK5 (μ : Mem) (a ab : Nat) (f t : Int32) : Prop := mF μ a = some (.inr (5, [.ref ab, .int f, .int t]))
theorem Li_isWithin_eq {μ : Mem} {a ab : Nat} {f t : Int32} (h : LK5 μ a ab f t) (v1 v2 : Int32) : S_Li_isWithin (some a) v1 v2 μ = some (bI (f ≤ v2 ∧ v1 ≤ t)) := by
  unfold LK5 at h
  unfold S_Li_isWithin B_Li_isWithin_20 B_Li_isWithin_21
  rw [gI_at h (k := 1) rfl, b1_some]
  by_cases h1 : v2 < f
  · rw [if_pos h1, bI_neg (fun q => absurd h1 (i32_nlt.mpr q.1))]
    exact gd0
  · rw [if_neg h1, gI_at h (k := 2) rfl, b1_some]
    by_cases h2 : t < v1
    · rw [if_pos h2, bI_neg (fun q => absurd h2 (i32_nlt.mpr q.2))]
      exact gd0
    · rw [if_neg h2, bI_pos ⟨i32_nlt.mp h1, i32_nlt.mp h2⟩]
      exact gd1
/-- the first of m from k on that holds the day; the last one -/
def fstIx (F T : Nat → Int32) (day : Int32) : Nat → Nat → Option Nat
  | 0, _ => none
  | m + 1, k => if F k ≤ day ∧ day ≤ T k then some k else fstIx F T day m (k + 1)
def lstIx (F T : Nat → Int32) (day : Int32) : Nat → Nat → Option Nat → Option Nat
  | 0, _, cur => cur
  | m + 1, k, cur => lstIx F T day m (k + 1) (if F k ≤ day ∧ day ≤ T k then some k else cur)
theorem lst_none (F T : Nat → Int32) (day : Int32) (m : Nat) : ∀ (k : Nat) (cur : Option Nat), (∀ j, k ≤ j → j < k + m → ¬ (F j ≤ day ∧ day ≤ T j)) → lstIx F T day m k cur = cur := by
  induction m with
  | zero => intro k cur _; rfl
  | succ m ih =>
    intro k cur h
    show lstIx F T day m (k + 1) (if F k ≤ day ∧ day ≤ T k then some k else cur) = cur
    rw [if_neg (h k (Nat.le_refl _) (by omega))]
    exact ih (k + 1) cur (fun j h1 h2 => h j (by omega) (by omega))
theorem lst_fst (F T : Nat → Int32) (day : Int32) (m : Nat) : ∀ k : Nat, (∀ i j, k ≤ i → i < k + m → k ≤ j → j < k + m → (F i ≤ day ∧ day ≤ T i) → (F j ≤ day ∧ day ≤ T j) → i = j) → lstIx F T day m k none = fstIx F T day m k := by
  induction m with
  | zero => intro k _; rfl
  | succ m ih =>
    intro k h
    show lstIx F T day m (k + 1) (if F k ≤ day ∧ day ≤ T k then some k else none) = if F k ≤ day ∧ day ≤ T k then some k else fstIx F T day m (k + 1)
    by_cases hk : F k ≤ day ∧ day ≤ T k
    · rw [if_pos hk, if_pos hk]
      exact lst_none F T day m (k + 1) _ (fun j h1 h2 hj => by have := h k j (Nat.le_refl _) (by omega) (by omega) (by omega) hk hj; omega)
    · rw [if_neg hk, if_neg hk]
      exact ih (k + 1) (fun i j a1 a2 a3 a4 => h i j (by omega) (by omega) (by omega) (by omega))
theorem Pl_above {μ : Mem} {a sh sd nm lk n ad : Nat} {num kind rem : Int32} {li ab : Nat → Nat} {F T : Nat → Int32} (hp : mF μ a = some (.inr (7, PC7 num kind rem sh sd nm lk))) (hl : AL μ lk n li ad) (hc : ∀ k, k < n → LK5 μ (li k) (ab k) (F k) (T k)) (day : Int32) (m : Nat) : ∀ (k fuel : Nat), k + m = n → m < fuel → B_Pl_aboveOn_2 μ fuel (some a) day (i32 k) = some ((fstIx F T day m k).map ab) := by
  have g6 : gR μ (some a) 7 6 = some (some lk) := gR_at hp rfl
  have h33 := hl.le
  induction m with
  | zero =>
    intro k fuel hk hf
    cases fuel with
    | zero => omega
    | succ fuel =>
      show b1 (gR μ (some a) 7 6) _ = _
      rw [g6, b1_some, hl.rc, b1_some, Al_size_eq hl, b1_some, if_pos ((i32_le (by omega) (by omega)).mpr (by omega))]
      rfl
  | succ m ih =>
    intro k fuel hk hf
    cases fuel with
    | zero => omega
    | succ fuel =>
      have hL := hc k (by omega)
      have hc5 : mF μ (li k) = some (.inr (5, [.ref (ab k), .int (F k), .int (T k)])) := hL
      show b1 (gR μ (some a) 7 6) _ = _
      rw [g6, b1_some, hl.rc, b1_some, Al_size_eq hl, b1_some, if_neg (fun e => by have := (i32_le (by omega) (by omega)).mp e; omega)]
      simp only [b1_some, hl.rc, Al_get_eq hl (show k < n by omega), cK_at hc5, rc_at hc5, Li_isWithin_eq hL, bI_if, gR_at hc5 (k := 0) rfl]
      show _ = some ((if F k ≤ day ∧ day ≤ T k then some k else fstIx F T day m (k + 1)).map ab)
      by_cases hq : F k ≤ day ∧ day ≤ T k
      · rw [if_pos hq, if_pos hq]
        rfl
      · rw [if_neg hq, if_neg hq, i32_succ]
        exact ih (k + 1) fuel (by omega) (by omega)
theorem Pl_aboveOn_eq {μ : Mem} {a sh sd nm lk n ad : Nat} {num kind rem : Int32} {li ab : Nat → Nat} {F T : Nat → Int32} (hp : mF μ a = some (.inr (7, PC7 num kind rem sh sd nm lk))) (hl : AL μ lk n li ad) (hc : ∀ k, k < n → LK5 μ (li k) (ab k) (F k) (T k)) (day : Int32) : S_Pl_aboveOn (some a) day μ = some ((fstIx F T day n 0).map ab) := by
  have h33 := hl.le
  exact Pl_above hp hl hc day n 0 fu (by omega) (by unfold fu; omega)
theorem i32_4 (s k : Nat) : (4 : Int32) * i32 s + i32 k = i32 (4 * s + k) := by
  rw [show (4 : Int32) = i32 4 from rfl, i32_mul, i32_add]
/-- a parent's number, or -1 -/
def paNo (P : Nat → Int32) (o : Option Nat) : Int32 := match o with
  | none => -1
  | some k => P k
theorem R_par {ρ : RS} {id n : Nat} {F T P : Nat → Int32} (hid : id < 30) (hn : ra ρ 14 id = i32 n) (h4 : n ≤ 4) (hP : ∀ k, k < n → ra ρ 15 (4 * id + k) = P k) (hF : ∀ k, k < n → ra ρ 16 (4 * id + k) = F k) (hT : ∀ k, k < n → ra ρ 17 (4 * id + k) = T k) (day : Int32) (m : Nat) : ∀ (k : Nat) (cur : Option Nat) (fuel : Nat), k + m = n → m < fuel → RB_M_parentOf_5 ρ fuel (i32 id) day (paNo P cur) (i32 k) = some (paNo P (lstIx F T day m k cur)) := by
  have hr := rgI_at (ρ := ρ) (k := 14) (n := 30) (j := id) hid (by omega)
  rw [hn] at hr
  induction m with
  | zero =>
    intro k cur fuel hk hf
    cases fuel with
    | zero => omega
    | succ fuel =>
      show b1 (rgI ρ 14 30 (i32 id)) _ = _
      rw [hr, b1_some, if_pos ((i32_le (by omega) (by omega)).mpr (by omega))]
      rfl
  | succ m ih =>
    intro k cur fuel hk hf
    cases fuel with
    | zero => omega
    | succ fuel =>
      have r1 := rgI_at (ρ := ρ) (k := 16) (n := 120) (j := 4 * id + k) (by omega) (by omega)
      have r2 := rgI_at (ρ := ρ) (k := 17) (n := 120) (j := 4 * id + k) (by omega) (by omega)
      have r3 := rgI_at (ρ := ρ) (k := 15) (n := 120) (j := 4 * id + k) (by omega) (by omega)
      rw [hF k (by omega), ← i32_4] at r1
      rw [hT k (by omega), ← i32_4] at r2
      rw [hP k (by omega), ← i32_4] at r3
      show b1 (rgI ρ 14 30 (i32 id)) _ = _
      rw [hr, b1_some, if_neg (fun e => by have := (i32_le (by omega) (by omega)).mp e; omega), r1, b1_some, r2, b1_some, R_in, b1_some, bI_if, r3, b1_some]
      unfold RB_M_parentOf_57
      show _ = some (paNo P (lstIx F T day m (k + 1) (if F k ≤ day ∧ day ≤ T k then some k else cur)))
      by_cases hq : F k ≤ day ∧ day ≤ T k
      · rw [if_pos hq, if_pos hq, i32_succ]
        exact ih (k + 1) (some k) fuel (by omega) (by omega)
      · rw [if_neg hq, if_neg hq, i32_succ]
        exact ih (k + 1) cur fuel (by omega) (by omega)
theorem R_parentOf_eq {ρ : RS} {id n : Nat} {F T P : Nat → Int32} (hid : id < 30) (hn : ra ρ 14 id = i32 n) (h4 : n ≤ 4) (hP : ∀ k, k < n → ra ρ 15 (4 * id + k) = P k) (hF : ∀ k, k < n → ra ρ 16 (4 * id + k) = F k) (hT : ∀ k, k < n → ra ρ 17 (4 * id + k) = T k) (day : Int32) : R_M_parentOf (i32 id) day ρ = some (paNo P (lstIx F T day n 0 none)) := by
  unfold R_M_parentOf
  rw [b0_eq]
  exact R_par hid hn h4 hP hF hT day n 0 none fu (by omega) (by unfold fu; omega)
