/-! is a place above another on a day: up i is the parent of place i -/
def belF (up : Nat → Option Nat) (id : Int32) : Nat → Option Nat → Bool
  | 0, _ => false
  | _ + 1, none => false
  | m + 1, some i => if i32 i = id then true else belF up id m (up i)
theorem P_below {μ : Mem} {pl : Nat → Nat} {N : Nat} {up : Nat → Option Nat} {day id : Int32} (hnum : ∀ i, i < N → gI μ (some (pl i)) 7 0 = some (i32 i)) (hrc : ∀ i, i < N → rc μ (some (pl i)) 7 = some ()) (hab : ∀ i, i < N → S_Pl_aboveOn (some (pl i)) day μ = some ((up i).map pl)) (hup : ∀ i, i < N → ∀ j, up i = some j → j < N) (m : Nat) : ∀ (s : Nat) (cur : Option Nat) (fuel : Nat), (∀ i, cur = some i → i < N) → s + m = 30 → m < fuel → B_P_isBelow_9 μ fuel id day (cur.map pl) (i32 s) = some (bI (belF up id m cur = true)) := by
  induction m with
  | zero =>
    intro s cur fuel hc hs hf
    cases fuel with
    | zero => omega
    | succ fuel =>
      show (if (30 : Int32) ≤ i32 s then _ else _) = _
      rw [if_pos (show (30 : Int32) ≤ i32 s from (i32_le (a := 30) (b := s) (by omega) (by omega)).mpr (by omega)), bI_neg (show ¬ (belF up id 0 cur = true) from fun q => by cases q)]
      exact gd0
  | succ m ih =>
    intro s cur fuel hc hs hf
    cases fuel with
    | zero => omega
    | succ fuel =>
      show (if (30 : Int32) ≤ i32 s then _ else _) = _
      rw [if_neg (show ¬ ((30 : Int32) ≤ i32 s) from fun e => by have := (i32_le (a := 30) (b := s) (by omega) (by omega)).mp e; omega)]
      cases cur with
      | none =>
        rw [if_pos (show Option.map pl none = none from rfl), bI_neg (show ¬ (belF up id (m + 1) none = true) from fun q => by cases q)]
        exact gd0
      | some i =>
        have hi := hc i rfl
        rw [if_neg (show ¬ (Option.map pl (some i) = none) from fun q => by cases q), show Option.map pl (some i) = some (pl i) from rfl, hnum i hi, b1_some]
        show _ = some (bI ((if i32 i = id then true else belF up id m (up i)) = true))
        by_cases hq : i32 i = id
        · rw [if_pos hq, bI_pos (by rw [if_pos hq])]
          exact gd1
        · rw [if_neg hq, hrc i hi, b1_some, hab i hi, b1_some, i32_succ]
          simp only [if_neg hq]
          exact ih (s + 1) (up i) fuel (hup i hi) (by omega) (by omega)
/-- the reference's number of a place, or -1 -/
def plNo (o : Option Nat) : Int32 := match o with
  | none => -1
  | some i => i32 i
theorem plNo_neg {i : Nat} (h : i < 30) : ¬ (i32 i = (-1)) := by
  intro e
  have h1 : (i32 i).toInt = (-1 : Int32).toInt := by rw [e]
  rw [i32_int (by omega), show (-1 : Int32).toInt = -1 from rfl] at h1
  omega
theorem R_above {ρ : RS} {N : Nat} {up : Nat → Option Nat} {day id : Int32} (hN : N ≤ 30) (hpa : ∀ i, i < N → R_M_parentOf (i32 i) day ρ = some (plNo (up i))) (hup : ∀ i, i < N → ∀ j, up i = some j → j < N) (m : Nat) : ∀ (s : Nat) (cur : Option Nat) (fuel : Nat), (∀ i, cur = some i → i < N) → s + m = 31 → m < fuel → RB_M_isAbove_6 ρ fuel id day (plNo cur) (i32 s) = some (bI (belF up id m cur = true)) := by
  induction m with
  | zero =>
    intro s cur fuel hc hs hf
    cases fuel with
    | zero => omega
    | succ fuel =>
      show (if (30 : Int32) < i32 s then _ else _) = _
      rw [if_pos (show (30 : Int32) < i32 s from (i32_lt (a := 30) (b := s) (by omega) (by omega)).mpr (by omega)), bI_neg (show ¬ (belF up id 0 cur = true) from fun q => by cases q)]
      exact gd0
  | succ m ih =>
    intro s cur fuel hc hs hf
    cases fuel with
    | zero => omega
    | succ fuel =>
      show (if (30 : Int32) < i32 s then _ else _) = _
      rw [if_neg (show ¬ ((30 : Int32) < i32 s) from fun e => by have := (i32_lt (a := 30) (b := s) (by omega) (by omega)).mp e; omega)]
      cases cur with
      | none =>
        rw [if_pos (show plNo none = -1 from rfl), bI_neg (show ¬ (belF up id (m + 1) none = true) from fun q => by cases q)]
        exact gd0
      | some i =>
        have hi := hc i rfl
        show (if i32 i = -1 then _ else if i32 i = id then _ else b1 (R_M_parentOf (i32 i) day ρ) _) = some (bI ((if i32 i = id then true else belF up id m (up i)) = true))
        rw [if_neg (plNo_neg (by omega))]
        by_cases hq : i32 i = id
        · rw [if_pos hq, bI_pos (by rw [if_pos hq])]
          exact gd1
        · rw [if_neg hq, hpa i hi, b1_some, i32_succ]
          simp only [if_neg hq]
          exact ih (s + 1) (up i) fuel (hup i hi) (by omega) (by omega)
